section ZJa
theorem za_id (S : zS2) (k i : Nat) : za S k i (S k i) = S := funext fun a => funext fun b => by
  rw [za_ap]
  by_cases q : a = k ∧ b = i
  · rw [if_pos q, q.1, q.2]
  · rw [if_neg q]
theorem za_za (S : zS2) (k i : Nat) (x y : Int) : za (za S k i x) k i y = za S k i y := funext fun a => funext fun b => by
  rw [za_ap, za_ap, za_ap]
  by_cases q : a = k ∧ b = i
  · rw [if_pos q, if_pos q]
  · rw [if_neg q, if_neg q, if_neg q]
/-- the tape under the model's eye -/
def zU (n : Int) (T : Nat → Int) (S : zS2) : Prop := n ≤ 1000 ∧ S 0 5 = n ∧ ∀ k : Nat, (k : Int) < n → S 1 k = T k
theorem zU.same {n : Int} {T : Nat → Int} {S S' : zS2} (h : zU n T S) (h5 : S' 0 5 = S 0 5) (h1 : ∀ k, S' 1 k = S 1 k) : zU n T S' := ⟨h.1, by rw [h5, h.2.1], fun k hk => by rw [h1]; exact h.2.2 k hk⟩
/-- what scanning may change -/
def zFs (S S' : zS2) : Prop := ∀ k i : Nat, ¬ (k = 0 ∧ 6 ≤ i ∧ i ≤ 9) → S' k i = S k i
theorem zFs.rf {S : zS2} : zFs S S := fun _ _ _ => rfl
theorem zFs.tr {S S' S'' : zS2} (h : zFs S S') (h2 : zFs S' S'') : zFs S S'' := fun k i q => (h2 k i q).trans (h k i q)
theorem zFs.za {S S' : zS2} (h : zFs S S') {i : Nat} (hi : 6 ≤ i ∧ i ≤ 9) (x : Int) : zFs S (za S' 0 i x) := fun k j q => by
  rw [za_ne (by omega)]
  exact h k j q
theorem zU.fs {n : Int} {T : Nat → Int} {S S' : zS2} (h : zU n T S) (hf : zFs S S') : zU n T S' := h.same (hf 0 5 (by omega)) (fun k => hf 1 k (by omega))
theorem zs_by {n : Int} {T : Nat → Int} {S : zS2} (h : zU n T S) (k : Int) : zm_byteAt S k = zby n T k := by
  have h1 := h.1
  unfold zm_byteAt zby
  rw [h.2.1]
  by_cases c : k < 0
  · rw [if_pos c, if_neg (by omega)]
  · rw [if_neg c]
    by_cases c2 : n ≤ k
    · rw [if_pos c2, if_neg (by omega)]
    · rw [if_neg c2, if_pos (by omega)]
      exact h.2.2 k.toNat (by omega)
def zsml (c : Int) : Prop := 97 ≤ c ∧ c ≤ 122
theorem zs_sm {n : Int} {T : Nat → Int} {S : zS2} (h : zU n T S) (k : Int) : zm_isSmall S k = if 97 ≤ zby n T k ∧ zby n T k ≤ 122 then 1 else 0 := by
  unfold zm_isSmall
  simp only [zlet_v]
  rw [zs_by h]
  by_cases c : zby n T k < 97
  · rw [if_pos c, if_neg (by omega)]
  · rw [if_neg c]
    by_cases c2 : 122 < zby n T k
    · rw [if_pos c2, if_neg (by omega)]
    · rw [if_neg c2, if_pos (by omega)]
theorem zs_dg {n : Int} {T : Nat → Int} {S : zS2} (h : zU n T S) (k : Int) : zm_isDigit S k = zdig (zby n T k) := by
  unfold zm_isDigit zdig
  simp only [zlet_v]
  rw [zs_by h]
  by_cases c : zby n T k < 48
  · rw [if_pos c, if_neg (by omega)]
  · rw [if_neg c]
    by_cases c2 : 57 < zby n T k
    · rw [if_pos c2, if_neg (by omega)]
    · rw [if_neg c2, if_pos (by omega)]
theorem zby_n {n : Int} {T : Nat → Int} {a : Int} (h : n ≤ a) : zby n T a = -1 := by
  unfold zby
  rw [if_neg (by omega)]
theorem zskF_rg2 {n : Int} {T : Nat → Int} : ∀ (k : Nat) (a : Int), a ≤ zskF n T k a ∧ zskF n T k a ≤ a + k
  | 0, a => by simp only [zskF]; omega
  | k + 1, a => by
    have := zskF_rg2 (n := n) (T := T) k (a + 1)
    simp only [zskF]
    split <;> omega
theorem zsk_r {n : Int} {T : Nat → Int} {a : Int} (h : 0 ≤ a ∧ a ≤ n) : a ≤ zsk n T a ∧ zsk n T a ≤ n := by
  have := zskF_rg2 (n := n) (T := T) (n - a).toNat a
  unfold zsk
  omega
/-- what stands behind blanks is none -/
theorem zsk_nb {n : Int} {T : Nat → Int} : ∀ (k : Nat) (a : Int), a + k = n → ¬ (zby n T (zskF n T k a) = 10 ∨ zby n T (zskF n T k a) = 32)
  | 0, a, h => by
    simp only [zskF]
    rw [zby_n (by omega)]
    omega
  | k + 1, a, h => by
    simp only [zskF]
    by_cases c : zby n T a = 10 ∨ zby n T a = 32
    · rw [if_pos c]
      exact zsk_nb k (a + 1) (by omega)
    · rw [if_neg c]
      exact c
theorem zsk_id {n : Int} {T : Nat → Int} {a : Int} (h : 0 ≤ a ∧ a ≤ n) : zsk n T (zsk n T a) = zsk n T a := by
  have r := zsk_r (T := T) h
  have nb := zsk_nb (n := n) (T := T) (n - a).toNat a (by omega)
  have e : zsk n T a = zskF n T (n - a).toNat a := rfl
  rw [← e] at nb
  obtain ⟨b, hb⟩ : ∃ b, b = zsk n T a := ⟨_, rfl⟩
  rw [← hb] at nb r ⊢
  unfold zsk
  by_cases c : b < n
  · rw [zskF_s T c, if_neg nb]
  · rw [show (n - b).toNat = 0 by omega]
    rfl
/-- no letter, no digit just ahead -/
def zop (n : Int) (T : Nat → Int) (a : Int) : Prop := ¬ (97 ≤ zby n T (a - 1) ∧ zby n T (a - 1) ≤ 122) ∧ zdig (zby n T (a - 1)) = 0
theorem zop_skF {n : Int} {T : Nat → Int} : ∀ (k : Nat) (a : Int), zop n T a → zop n T (zskF n T k a)
  | 0, a, h => h
  | k + 1, a, h => by
    simp only [zskF]
    by_cases c : zby n T a = 10 ∨ zby n T a = 32
    · rw [if_pos c]
      refine zop_skF k (a + 1) ⟨?_, ?_⟩
      · rw [show a + 1 - 1 = a by omega]; omega
      · rw [show a + 1 - 1 = a by omega]
        unfold zdig
        rw [if_neg (by omega)]
    · rw [if_neg c]
      exact h
theorem zop_sk {n : Int} {T : Nat → Int} {a : Int} (h : zop n T a) : zop n T (zsk n T a) := zop_skF _ _ h
theorem zop_at {n : Int} {T : Nat → Int} {a c : Int} (h : zby n T a = c) (hc : ¬ (97 ≤ c ∧ c ≤ 122)) (hd : ¬ (48 ≤ c ∧ c ≤ 57)) : zop n T (a + 1) := ⟨by rw [show a + 1 - 1 = a by omega, h]; exact hc, by
  rw [show a + 1 - 1 = a by omega, h]
  unfold zdig
  rw [if_neg hd]⟩
theorem zs_hereW {n : Int} {T : Nat → Int} : ∀ (m fu : Nat) (S : zS2), zU n T S → 0 ≤ S 0 6 → S 0 6 + m = n → m < fu → zm_here_W0 fu S = za S 0 6 (zskF n T m (S 0 6))
  | 0, fu, S, h, h0, hm, hf => by
    obtain ⟨fu, rfl⟩ : ∃ k, fu = k + 1 := ⟨fu - 1, by omega⟩
    simp only [zm_here_W0, zlet_v, zskF]
    rw [zs_by h, zby_n (by omega), if_neg (by decide), if_neg (by decide), za_id]
  | m + 1, fu, S, h, h0, hm, hf => by
    obtain ⟨fu, rfl⟩ : ∃ k, fu = k + 1 := ⟨fu - 1, by omega⟩
    simp only [zm_here_W0, zlet_v, zskF]
    rw [zs_by h]
    have st : zm_here_W0 fu (za S 0 6 (S 0 6 + 1)) = za S 0 6 (zskF n T m (S 0 6 + 1)) := by
      have ih := zs_hereW m fu (za S 0 6 (S 0 6 + 1)) (h.fs (zFs.rf.za (by omega) _)) (by rw [za_same]; omega) (by rw [za_same]; omega) (by omega)
      rw [za_same] at ih
      rw [ih, za_za]
    by_cases c : zby n T (S 0 6) = 10
    · rw [if_pos c, if_pos (Or.inl c), st]
    · rw [if_neg c]
      by_cases c2 : zby n T (S 0 6) = 32
      · rw [if_pos c2, if_pos (Or.inr c2), st]
      · rw [if_neg c2, if_neg (by omega), za_id]
/-- what comes behind blanks -/
theorem zs_here {n : Int} {T : Nat → Int} {S : zS2} (h : zU n T S) (ha : 0 ≤ S 0 6 ∧ S 0 6 ≤ n) : zm_here S = (zby n T (zsk n T (S 0 6)), za S 0 6 (zsk n T (S 0 6))) := by
  have h1 := h.1
  have e := zs_hereW (n - S 0 6).toNat 1001 S h ha.1 (by omega) (by omega)
  have e' : zm_here_W0 1001 S = za S 0 6 (zsk n T (S 0 6)) := e
  unfold zm_here
  rw [e', zlet_v, zlet_v, zs_by (h.fs (zFs.rf.za (by omega) _)), za_same]
theorem zs_wordW {n : Int} {T : Nat → Int} : ∀ (m fu : Nat) (S : zS2), zU n T S → 0 ≤ S 0 6 → S 0 6 + m = n → m < fu → zm_word_W33 fu S = za S 0 6 (zweF n T m (S 0 6))
  | 0, fu, S, h, h0, hm, hf => by
    obtain ⟨fu, rfl⟩ : ∃ k, fu = k + 1 := ⟨fu - 1, by omega⟩
    simp only [zm_word_W33, zlet_v, zweF]
    rw [zs_sm h, zby_n (by omega), if_neg (show ¬ ((97 : Int) ≤ -1 ∧ (-1 : Int) ≤ 122) by decide), if_pos rfl, za_id]
  | m + 1, fu, S, h, h0, hm, hf => by
    obtain ⟨fu, rfl⟩ : ∃ k, fu = k + 1 := ⟨fu - 1, by omega⟩
    simp only [zm_word_W33, zlet_v, zweF]
    rw [zs_sm h]
    by_cases c : 97 ≤ zby n T (S 0 6) ∧ zby n T (S 0 6) ≤ 122
    · rw [if_pos c, if_pos c, if_neg (by decide)]
      have ih := zs_wordW m fu (za S 0 6 (S 0 6 + 1)) (h.fs (zFs.rf.za (by omega) _)) (by rw [za_same]; omega) (by rw [za_same]; omega) (by omega)
      rw [za_same] at ih
      rw [ih, za_za]
    · rw [if_neg c, if_neg c, if_pos rfl, za_id]
theorem zs_wordE {n : Int} {T : Nat → Int} {S : zS2} (h : zU n T S) (ha : 0 ≤ S 0 6 ∧ S 0 6 ≤ n) : zm_word_W33 1001 S = za S 0 6 (zwe n T (S 0 6)) := by
  have h1 := h.1
  exact zs_wordW (n - S 0 6).toNat 1001 S h ha.1 (by omega) (by omega)
/-- a word stands there -/
def zwdh (n : Int) (T : Nat → Int) (a : Int) : Prop := (97 ≤ zby n T a ∧ zby n T a ≤ 122) ∧ zop n T a
theorem zs_isw {n : Int} {T : Nat → Int} {S : zS2} (h : zU n T S) (ha : 0 ≤ S 0 6 ∧ S 0 6 ≤ n) (h8 : S 0 8 = 0) : zm_isWordHere S = (bI (zwdh n T (zsk n T (S 0 6))), za S 0 6 (zsk n T (S 0 6))) := by
  obtain ⟨S1, hS1⟩ : ∃ S1, S1 = za S 0 6 (zsk n T (S 0 6)) := ⟨_, rfl⟩
  have f1 : zFs S S1 := by rw [hS1]; exact zFs.rf.za (by omega) _
  have h1 := h.fs f1
  have s6 : S1 0 6 = zsk n T (S 0 6) := by rw [hS1, za_same]
  have s8 : S1 0 8 = 0 := by rw [hS1, za_ne (by omega), h8]
  unfold zm_isWordHere
  rw [zs_here h ha, ← hS1]
  simp only [zlet_v]
  rw [show zm_goesWell S1 = 1 from if_pos s8, if_neg (by decide), zs_sm h1, zs_sm h1, zs_dg h1, s6]
  by_cases c : 97 ≤ zby n T (zsk n T (S 0 6)) ∧ zby n T (zsk n T (S 0 6)) ≤ 122
  · rw [if_pos c, if_neg (by decide)]
    by_cases c2 : 97 ≤ zby n T (zsk n T (S 0 6) - 1) ∧ zby n T (zsk n T (S 0 6) - 1) ≤ 122
    · rw [if_pos c2, if_neg (by decide), bI_f (fun z => z.2.1 c2)]
    · rw [if_neg c2, if_pos rfl]
      by_cases c3 : zdig (zby n T (zsk n T (S 0 6) - 1)) = 0
      · rw [if_pos c3, bI_t ⟨c, c2, c3⟩]
      · rw [if_neg c3, bI_f (fun z => c3 z.2.2)]
  · rw [if_neg c, if_pos rfl, bI_f (fun z => c z.1)]
theorem zs_faults {S : zS2} (h8 : S 0 8 = 0) (k a : Int) : zm_faults S k a = za (za S 0 8 k) 0 9 a := by
  unfold zm_faults
  rw [if_pos h8, zlet_v, zlet_v]
/-- a fault stands -/
def zft (S S' : zS2) (k a : Int) : Prop := zFs S S' ∧ S' 0 8 = k ∧ S' 0 9 = a
theorem zs_flt {S S' : zS2} (h8 : S' 0 8 = 0) (hf : zFs S S') (k a : Int) : zft S (zm_faults S' k a) k a := by
  rw [zs_faults h8]
  exact ⟨(hf.za (by omega) _).za (by omega) _, by rw [za_ne (by omega), za_same], by rw [za_same]⟩
theorem zs_wordT (q : Int × zS2) (W : zS2 → zS2) (F : zS2 → zS2) (h : ¬ q.1 = 0) : (zlet q fun q9 => (fun (z9 : Int) (S9 : zS2) => if z9 = 0 then zlet (F S9) (fun S21 => S21) else zlet (za S9 0 7 (S9 0 6)) (fun S30 => zlet (W S30) (fun S33 => S33))) q9.1 q9.2) = W (za q.2 0 7 (q.2 0 6)) := if_neg h
theorem zs_wordG {S : zS2} (h : zm_goesWell S = 1) : zm_word S = zlet (zm_isWordHere S) fun q9 => (fun (z9 : Int) (S9 : zS2) => if z9 = 0 then zlet (zm_faults S9 1 (S9 0 6)) (fun S21 => S21) else zlet (za S9 0 7 (S9 0 6)) (fun S30 => zlet (zm_word_W33 1001 S30) (fun S33 => S33))) q9.1 q9.2 := by
  unfold zm_word
  rw [h, zlet_v, if_neg (by decide)]
theorem zs_word1 {n : Int} {T : Nat → Int} {S : zS2} (h : zU n T S) (ha : 0 ≤ S 0 6 ∧ S 0 6 ≤ n) (h8 : S 0 8 = 0) (c : zwdh n T (zsk n T (S 0 6))) : zm_word S = zm_word_W33 1001 (za (za S 0 6 (zsk n T (S 0 6))) 0 7 (zsk n T (S 0 6))) := by
  have e1 := zs_isw h ha h8
  rw [bI_t c] at e1
  obtain ⟨q, hq⟩ : ∃ q, q = zm_isWordHere S := ⟨_, rfl⟩
  rw [← hq] at e1
  have e2 := zs_wordT q (zm_word_W33 1001) (fun S9 => zm_faults S9 1 (S9 0 6)) (by rw [e1]; show ¬ (1 : Int) = 0; decide)
  have e3 := zs_wordG (S := S) (if_pos h8)
  rw [← hq] at e3
  have e4 : zm_word S = zm_word_W33 1001 (za q.2 0 7 (q.2 0 6)) := e3.trans e2
  have q2 : q.2 = za S 0 6 (zsk n T (S 0 6)) := by rw [e1]
  rw [e4, q2, za_same]
theorem zs_word0 {n : Int} {T : Nat → Int} {S : zS2} (h : zU n T S) (ha : 0 ≤ S 0 6 ∧ S 0 6 ≤ n) (h8 : S 0 8 = 0) (c : ¬ zwdh n T (zsk n T (S 0 6))) : zm_word S = zm_faults (za S 0 6 (zsk n T (S 0 6))) 1 (zsk n T (S 0 6)) := by
  have e0 : zm_goesWell S = 1 := if_pos h8
  unfold zm_word
  generalize zm_word_W33 1001 = W
  rw [e0, zs_isw h ha h8, bI_f c]
  simp only [zlet_v]
  rw [if_neg (by decide), if_pos trivial, za_same]
/-- a word is passed -/
theorem zs_word {n : Int} {T : Nat → Int} {S : zS2} (h : zU n T S) (ha : 0 ≤ S 0 6 ∧ S 0 6 ≤ n) (h8 : S 0 8 = 0) : (¬ zwdh n T (zsk n T (S 0 6)) ∧ zft S (zm_word S) 1 (zsk n T (S 0 6))) ∨ (zwdh n T (zsk n T (S 0 6)) ∧ zFs S (zm_word S) ∧ (zm_word S) 0 8 = 0 ∧ (zm_word S) 0 9 = S 0 9 ∧ (zm_word S) 0 7 = zsk n T (S 0 6) ∧ (zm_word S) 0 6 = zwe n T (zsk n T (S 0 6))) := by
  have r := zsk_r (T := T) ha
  obtain ⟨a, ha1⟩ : ∃ a, a = zsk n T (S 0 6) := ⟨_, rfl⟩
  obtain ⟨S1, hS1⟩ : ∃ S1, S1 = za S 0 6 a := ⟨_, rfl⟩
  have f1 : zFs S S1 := by rw [hS1]; exact zFs.rf.za (by omega) _
  have s8 : S1 0 8 = 0 := by rw [hS1, za_ne (by omega), h8]
  by_cases c : zwdh n T (zsk n T (S 0 6))
  · have e := zs_word1 h ha h8 c
    obtain ⟨W, hW⟩ : ∃ W, W = zm_word S := ⟨_, rfl⟩
    rw [← hW] at e ⊢
    rw [← ha1] at e r c ⊢
    rw [← hS1, zs_wordE (n := n) (T := T) (S := za S1 0 7 a) (h.fs (f1.za (by omega) _)) (by rw [za_ne (by omega), hS1, za_same]; omega), za_ne (by omega), hS1, za_same, ← hS1] at e
    rw [e]
    exact Or.inr ⟨c, (f1.za (by omega) _).za (by omega) _, by rw [za_ne (by omega), za_ne (by omega), s8], by rw [za_ne (by omega), za_ne (by omega), hS1, za_ne (by omega)], by rw [za_ne (by omega), za_same], by rw [za_same]⟩
  · have e := zs_word0 h ha h8 c
    obtain ⟨W, hW⟩ : ∃ W, W = zm_word S := ⟨_, rfl⟩
    rw [← hW] at e ⊢
    rw [← ha1] at e r c ⊢
    rw [← hS1] at e
    rw [e]
    exact Or.inl ⟨c, zs_flt s8 f1 _ _⟩
theorem zs_numW {n : Int} {T : Nat → Int} : ∀ (m fu : Nat) (v : Int) (S : zS2), zU n T S → 0 ≤ v → 0 ≤ S 0 6 → S 0 6 + m = n → m < fu → ∃ v', zm_number_W72 fu v S = (v', za S 0 6 (zrnF n T m (S 0 6) (min v 2147483648)).1) ∧ (zrnF n T m (S 0 6) (min v 2147483648)).2 = min v' 2147483648 ∧ 0 ≤ v' ∧ S 0 6 ≤ (zrnF n T m (S 0 6) (min v 2147483648)).1 ∧ (zrnF n T m (S 0 6) (min v 2147483648)).1 ≤ n
  | 0, fu, v, S, h, hv, h0, hm, hf => by
    obtain ⟨fu, rfl⟩ : ∃ k, fu = k + 1 := ⟨fu - 1, by omega⟩
    simp only [zm_number_W72, zlet_v, zrnF]
    rw [zs_dg h, zby_n (by omega), if_pos (by decide), za_id]
    exact ⟨v, rfl, rfl, hv, Int.le_refl _, by omega⟩
  | m + 1, fu, v, S, h, hv, h0, hm, hf => by
    obtain ⟨fu, rfl⟩ : ∃ k, fu = k + 1 := ⟨fu - 1, by omega⟩
    simp only [zm_number_W72, zlet_v, zrnF]
    rw [zs_dg h, zs_by h]
    by_cases c : zdig (zby n T (S 0 6)) = 0
    · rw [if_pos c, if_pos c, za_id]
      exact ⟨v, rfl, rfl, hv, Int.le_refl _, by omega⟩
    · rw [if_neg c, if_neg c]
      have d := zdig_1 c
      by_cases c2 : v ≤ 2147483647
      · rw [if_pos c2]
        obtain ⟨v', e1, e2, e3, e4, e5⟩ := zs_numW m fu (10 * v + zby n T (S 0 6) - 48) (za S 0 6 (S 0 6 + 1)) (h.fs (zFs.rf.za (by omega) _)) (by omega) (by rw [za_same]; omega) (by rw [za_same]; omega) (by omega)
        rw [za_same] at e1 e2 e4 e5
        rw [za_za] at e1
        rw [show min (min v 2147483648 * 10 + zby n T (S 0 6) - 48) 2147483648 = min (10 * v + zby n T (S 0 6) - 48) 2147483648 by omega]
        exact ⟨v', e1, e2, e3, by omega, e5⟩
      · rw [if_neg c2]
        obtain ⟨v', e1, e2, e3, e4, e5⟩ := zs_numW m fu v (za S 0 6 (S 0 6 + 1)) (h.fs (zFs.rf.za (by omega) _)) hv (by rw [za_same]; omega) (by rw [za_same]; omega) (by omega)
        rw [za_same] at e1 e2 e4 e5
        rw [za_za] at e1
        rw [show min (min v 2147483648 * 10 + zby n T (S 0 6) - 48) 2147483648 = min v 2147483648 by omega]
        exact ⟨v', e1, e2, e3, by omega, e5⟩
/-- a number is read -/
theorem zs_number {n : Int} {T : Nat → Int} {S : zS2} (h : zU n T S) (ha : 0 ≤ S 0 6 ∧ S 0 6 ≤ n) (h8 : S 0 8 = 0) : (¬ (¬ zdig (zby n T (zsk n T (S 0 6))) = 0 ∧ zop n T (zsk n T (S 0 6))) ∧ zft S (zm_number S).2 1 (zsk n T (S 0 6))) ∨ ((¬ zdig (zby n T (zsk n T (S 0 6))) = 0 ∧ zop n T (zsk n T (S 0 6))) ∧ ((zrnV (zrnA n T (zsk n T (S 0 6))) < 0 ∧ zft S (zm_number S).2 2 (zsk n T (S 0 6))) ∨ (0 ≤ zrnV (zrnA n T (zsk n T (S 0 6))) ∧ (zm_number S).1 = zrnV (zrnA n T (zsk n T (S 0 6))) ∧ zFs S (zm_number S).2 ∧ (zm_number S).2 0 8 = 0 ∧ (zm_number S).2 0 9 = S 0 9 ∧ (zm_number S).2 0 7 = zsk n T (S 0 6) ∧ (zm_number S).2 0 6 = (zrnA n T (zsk n T (S 0 6))).1)) ∧ zsk n T (S 0 6) ≤ (zrnA n T (zsk n T (S 0 6))).1 ∧ (zrnA n T (zsk n T (S 0 6))).1 ≤ n) := by
  have hn := h.1
  obtain ⟨a, ha1⟩ : ∃ a, a = zsk n T (S 0 6) := ⟨_, rfl⟩
  obtain ⟨S1, hS1⟩ : ∃ S1, S1 = za (za S 0 6 a) 0 7 a := ⟨_, rfl⟩
  have f1 : zFs S S1 := by rw [hS1]; exact (zFs.rf.za (by omega) _).za (by omega) _
  have s6 : S1 0 6 = a := by rw [hS1, za_ne (by omega), za_same]
  have s7 : S1 0 7 = a := by rw [hS1, za_same]
  have s8 : S1 0 8 = 0 := by rw [hS1, za_ne (by omega), za_ne (by omega), h8]
  have s9 : S1 0 9 = S 0 9 := by rw [hS1, za_ne (by omega), za_ne (by omega)]
  have h1 := h.fs f1
  have r := zsk_r (T := T) ha
  rw [← ha1] at r ⊢
  have e0 : zm_number S = (if zdig (zby n T a) = 0 then (0, zm_faults S1 1 a) else (if (if 97 ≤ zby n T (a - 1) ∧ zby n T (a - 1) ≤ 122 then (1 : Int) else 0) = 0 then (if zdig (zby n T (a - 1)) = 0 then (if (zm_number_W72 1001 0 S1).1 ≤ 2147483647 then (if zm_goesWell (zm_number_W72 1001 0 S1).2 = 0 then (0, (zm_number_W72 1001 0 S1).2) else ((zm_number_W72 1001 0 S1).1, (zm_number_W72 1001 0 S1).2)) else (if zm_goesWell (zm_faults (zm_number_W72 1001 0 S1).2 2 ((zm_number_W72 1001 0 S1).2 0 7)) = 0 then (0, zm_faults (zm_number_W72 1001 0 S1).2 2 ((zm_number_W72 1001 0 S1).2 0 7)) else ((zm_number_W72 1001 0 S1).1, zm_faults (zm_number_W72 1001 0 S1).2 2 ((zm_number_W72 1001 0 S1).2 0 7)))) else (0, zm_faults S1 1 a)) else (0, zm_faults S1 1 a))) := by
    unfold zm_number
    rw [show zm_goesWell S = 1 from if_pos h8, zlet_v, if_neg (by decide), zs_here h ha, ← ha1]
    simp only [zlet_v]
    rw [za_same, ← hS1, zs_dg h1, zs_sm h1, zs_dg h1, s6]
  by_cases c : ¬ zdig (zby n T a) = 0 ∧ zop n T a
  · refine Or.inr ⟨c, ?_⟩
    rw [if_neg c.1, if_neg c.2.1, if_pos rfl, if_pos c.2.2] at e0
    obtain ⟨v', e1, e2, e3, e4, e5⟩ := zs_numW (n := n) (T := T) (n - a).toNat 1001 0 S1 h1 (Int.le_refl _) (by omega) (by omega) (by omega)
    rw [s6, show min (0 : Int) 2147483648 = 0 by decide] at e1 e2 e4 e5
    have eA : zrnF n T (n - a).toNat a 0 = zrnA n T a := rfl
    rw [eA] at e1 e2 e4 e5
    have e1' : zm_number_W72 1001 0 S1 = (v', za S1 0 6 (zrnA n T a).1) := e1
    rw [e1'] at e0
    dsimp only at e0
    refine ⟨?_, e4, e5⟩
    unfold zrnV
    rw [e2]
    by_cases c2 : v' ≤ 2147483647
    · rw [if_pos c2, show zm_goesWell (za S1 0 6 (zrnA n T a).1) = 1 from if_pos (by rw [za_ne (by omega), s8]), if_neg (by decide)] at e0
      rw [if_neg (by omega), e0]
      dsimp only
      exact Or.inr ⟨by omega, by omega, f1.za (by omega) _, by rw [za_ne (by omega), s8], by rw [za_ne (by omega), s9], by rw [za_ne (by omega), s7], by rw [za_same]⟩
    · have t := zs_flt (S := S) (S' := za S1 0 6 (zrnA n T a).1) (by rw [za_ne (by omega), s8]) (f1.za (by omega) _) 2 a
      have b7 : (za S1 0 6 (zrnA n T a).1) 0 7 = a := by rw [za_ne (by omega), s7]
      have g0 : zm_goesWell (zm_faults (za S1 0 6 (zrnA n T a).1) 2 ((za S1 0 6 (zrnA n T a).1) 0 7)) = 0 := by
        rw [b7]
        exact if_neg (by rw [t.2.1]; decide)
      rw [if_neg c2, if_pos g0, b7] at e0
      rw [if_pos (by omega), e0]
      exact Or.inl ⟨by decide, t⟩
  · refine Or.inl ⟨c, ?_⟩
    have t := zs_flt (S := S) (S' := S1) s8 f1 1 a
    have e1 : zm_number S = (0, zm_faults S1 1 a) := by
      rw [e0]
      by_cases c1 : zdig (zby n T a) = 0
      · rw [if_pos c1]
      · rw [if_neg c1]
        by_cases c2 : 97 ≤ zby n T (a - 1) ∧ zby n T (a - 1) ≤ 122
        · rw [if_pos c2, if_neg (by decide)]
        · rw [if_neg c2, if_pos rfl]
          by_cases c3 : zdig (zby n T (a - 1)) = 0
          · exact absurd ⟨c1, c2, c3⟩ c
          · rw [if_neg c3]
    rw [e1]
    exact t
end ZJa
