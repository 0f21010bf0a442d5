section ZJa
theorem za_id (S : zS2) (k i : Nat) : za S k i (S k i) = S := funext fun a => funext fun b => by
  rw [za_ap]
  by_cases q : a = k ∧ b = i
  · rw [if_pos q, q.1, q.2]
  · rw [if_neg q]
theorem za_za (S : zS2) (k i : Nat) (x y : Int) : za (za S k i x) k i y = za S k i y := funext fun a => funext fun b => by
  rw [za_ap, za_ap, za_ap]
  by_cases q : a = k ∧ b = i
  · rw [if_pos q, if_pos q]
  · rw [if_neg q, if_neg q, if_neg q]
/-- the tape under the model's eye -/
def zU (n : Int) (T : Nat → Int) (S : zS2) : Prop := n ≤ 1000 ∧ S 0 5 = n ∧ ∀ k : Nat, (k : Int) < n → S 1 k = T k
theorem zU.same {n : Int} {T : Nat → Int} {S S' : zS2} (h : zU n T S) (h5 : S' 0 5 = S 0 5) (h1 : ∀ k, S' 1 k = S 1 k) : zU n T S' := ⟨h.1, by rw [h5, h.2.1], fun k hk => by rw [h1]; exact h.2.2 k hk⟩
/-- what scanning may change -/
def zFs (S S' : zS2) : Prop := ∀ k i : Nat, ¬ (k = 0 ∧ 6 ≤ i ∧ i ≤ 9) → S' k i = S k i
theorem zFs.rf {S : zS2} : zFs S S := fun _ _ _ => rfl
theorem zFs.tr {S S' S'' : zS2} (h : zFs S S') (h2 : zFs S' S'') : zFs S S'' := fun k i q => (h2 k i q).trans (h k i q)
theorem zFs.za {S S' : zS2} (h : zFs S S') {i : Nat} (hi : 6 ≤ i ∧ i ≤ 9) (x : Int) : zFs S (za S' 0 i x) := fun k j q => by
  rw [za_ne (by omega)]
  exact h k j q
theorem zU.fs {n : Int} {T : Nat → Int} {S S' : zS2} (h : zU n T S) (hf : zFs S S') : zU n T S' := h.same (hf 0 5 (by omega)) (fun k => hf 1 k (by omega))
def zsml (c : Int) : Prop := 97 ≤ c ∧ c ≤ 122
theorem zby_n {n : Int} {T : Nat → Int} {a : Int} (h : n ≤ a) : zby n T a = -1 := by
  unfold zby
  rw [if_neg (by omega)]
theorem zskF_rg2 {n : Int} {T : Nat → Int} : ∀ (k : Nat) (a : Int), a ≤ zskF n T k a ∧ zskF n T k a ≤ a + k
  | 0, a => by simp only [zskF]; omega
  | k + 1, a => by
    have := zskF_rg2 (n := n) (T := T) k (a + 1)
    simp only [zskF]
    split <;> omega
theorem zsk_r {n : Int} {T : Nat → Int} {a : Int} (h : 0 ≤ a ∧ a ≤ n) : a ≤ zsk n T a ∧ zsk n T a ≤ n := by
  have := zskF_rg2 (n := n) (T := T) (n - a).toNat a
  unfold zsk
  omega
/-- what stands behind blanks is none -/
theorem zsk_nb {n : Int} {T : Nat → Int} : ∀ (k : Nat) (a : Int), a + k = n → ¬ (zby n T (zskF n T k a) = 10 ∨ zby n T (zskF n T k a) = 32)
  | 0, a, h => by
    simp only [zskF]
    rw [zby_n (by omega)]
    omega
  | k + 1, a, h => by
    simp only [zskF]
    by_cases c : zby n T a = 10 ∨ zby n T a = 32
    · rw [if_pos c]
      exact zsk_nb k (a + 1) (by omega)
    · rw [if_neg c]
      exact c
theorem zsk_id {n : Int} {T : Nat → Int} {a : Int} (h : 0 ≤ a ∧ a ≤ n) : zsk n T (zsk n T a) = zsk n T a := by
  have r := zsk_r (T := T) h
  have nb := zsk_nb (n := n) (T := T) (n - a).toNat a (by omega)
  have e : zsk n T a = zskF n T (n - a).toNat a := rfl
  rw [← e] at nb
  obtain ⟨b, hb⟩ : ∃ b, b = zsk n T a := ⟨_, rfl⟩
  rw [← hb] at nb r ⊢
  unfold zsk
  by_cases c : b < n
  · rw [zskF_s T c, if_neg nb]
  · rw [show (n - b).toNat = 0 by omega]
    rfl
/-- no letter, no digit just ahead -/
def zop (n : Int) (T : Nat → Int) (a : Int) : Prop := ¬ (97 ≤ zby n T (a - 1) ∧ zby n T (a - 1) ≤ 122) ∧ zdig (zby n T (a - 1)) = 0
theorem zop_skF {n : Int} {T : Nat → Int} : ∀ (k : Nat) (a : Int), zop n T a → zop n T (zskF n T k a)
  | 0, a, h => h
  | k + 1, a, h => by
    simp only [zskF]
    by_cases c : zby n T a = 10 ∨ zby n T a = 32
    · rw [if_pos c]
      refine zop_skF k (a + 1) ⟨?_, ?_⟩
      · rw [show a + 1 - 1 = a by omega]; omega
      · rw [show a + 1 - 1 = a by omega]
        unfold zdig
        rw [if_neg (by omega)]
    · rw [if_neg c]
      exact h
theorem zop_sk {n : Int} {T : Nat → Int} {a : Int} (h : zop n T a) : zop n T (zsk n T a) := zop_skF _ _ h
theorem zop_at {n : Int} {T : Nat → Int} {a c : Int} (h : zby n T a = c) (hc : ¬ (97 ≤ c ∧ c ≤ 122)) (hd : ¬ (48 ≤ c ∧ c ≤ 57)) : zop n T (a + 1) := ⟨by rw [show a + 1 - 1 = a by omega, h]; exact hc, by
  rw [show a + 1 - 1 = a by omega, h]
  unfold zdig
  rw [if_neg hd]⟩
/-- a word stands there -/
def zwdh (n : Int) (T : Nat → Int) (a : Int) : Prop := (97 ≤ zby n T a ∧ zby n T a ≤ 122) ∧ zop n T a
/-- a fault stands -/
def zft (S S' : zS2) (k a : Int) : Prop := zFs S S' ∧ S' 0 8 = k ∧ S' 0 9 = a
theorem zs_wordT (q : Int × zS2) (W : zS2 → zS2) (F : zS2 → zS2) (h : ¬ q.1 = 0) : (zlet q fun q9 => (fun (z9 : Int) (S9 : zS2) => if z9 = 0 then zlet (F S9) (fun S21 => S21) else zlet (za S9 0 7 (S9 0 6)) (fun S30 => zlet (W S30) (fun S33 => S33))) q9.1 q9.2) = W (za q.2 0 7 (q.2 0 6)) := if_neg h
end ZJa
