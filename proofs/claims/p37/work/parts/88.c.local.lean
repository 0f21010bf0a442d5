section ZMf
theorem zK_accI {K : Type} [Lean.Grind.CommRing K] {σ : Type} (ob : σ → K) (I : σ → Prop) {step : Int → σ → σ} {a : Int} {s : σ} {F : Nat → K} (h0 : I s) : ∀ n : Nat, (∀ (k : Nat) x, k < n → I x → I (step (a + k) x) ∧ ob (step (a + k) x) = ob x + F k) → I (zfor step a s n) ∧ ob (zfor step a s n) = ob s + ka_s F n
  | 0, _ => ⟨h0, by show ob s = ob s + 0; grind⟩
  | n + 1, h => by
    obtain ⟨i1, i2⟩ := zK_accI ob I h0 n (fun k x hk => h k x (by omega))
    obtain ⟨j1, j2⟩ := h n _ (by omega) i1
    refine ⟨j1, ?_⟩
    show ob (step (a + n) (zfor step a s n)) = ob s + (ka_s F n + F n)
    rw [j2, i2]; grind
theorem ka_s_if {K : Type} [Lean.Grind.CommRing K] {P : Prop} [Decidable P] {B : Nat} (G : Nat → K) : ∀ n : Nat, ka_s (fun b => if P ∧ b = B then G b else 0) n = if P ∧ B < n then G B else 0
  | 0 => by rw [if_neg (by omega)]; rfl
  | n + 1 => by
    show ka_s (fun b => if P ∧ b = B then G b else 0) n + (if P ∧ n = B then G n else 0) = _
    rw [ka_s_if G n]
    by_cases hP : P
    · by_cases e : n = B
      · rw [if_neg (by omega), if_pos ⟨hP, e⟩, if_pos ⟨hP, by omega⟩, e]; grind
      · by_cases l : B < n
        · rw [if_pos ⟨hP, l⟩, if_neg (by omega), if_pos ⟨hP, by omega⟩]; grind
        · rw [if_neg (by omega), if_neg (by omega), if_neg (by omega)]; grind
    · rw [if_neg (fun q => hP q.1), if_neg (fun q => hP q.1), if_neg (fun q => hP q.1)]; grind
def zshK {K : Type} [Lean.Grind.CommRing K] (φ : Int → K) (x : Int) (n k : Nat) : K := φ (zCH (n * 5 + k)) * φ x ^ (n - k)
theorem zK_pw {K : Type} [Lean.Grind.CommRing K] {p : Int} {φ : Int → K} (h : zKp K p φ) (x : Int) : ∀ k, φ (zpow x p k) = φ x ^ k
  | 0 => by rw [Lean.Grind.Semiring.pow_zero]; exact h.o
  | k + 1 => by
    show φ ((zpow x p k * x) % p) = _
    rw [h.em, h.ml, zK_pw h x k, Lean.Grind.Semiring.pow_succ]
theorem zK_sh {K : Type} [Lean.Grind.CommRing K] {p : Int} {φ : Int → K} (h : zKp K p φ) (x : Int) {n k : Nat} (hk : k ≤ n) (hn : n ≤ 4) : φ (zsh p x n k) = zshK φ x n k := by
  unfold zsh zshK
  rw [if_pos (by omega), h.em, h.ml, zK_pw h, show ((n : Int) * 5 + (k : Int)).toNat = n * 5 + k by omega, show ((n : Int) - (k : Int)).toNat = n - k by omega]
theorem zK_putN {K : Type} [Lean.Grind.CommRing K] {p : Int} {φ : Int → K} (h : zKp K p φ) {c : Nat → Int} {a b A B : Nat} (hab : a + b ≤ 4) (hAB : A + B ≤ 4) (v : Int) : φ (zput c a b v (5 * A + B)) = if a = A ∧ b = B then φ v else φ (c (5 * A + B)) := by
  rw [zput_t (by unfold zfits; omega)]
  unfold zup
  by_cases e : a = A ∧ b = B
  · rw [if_pos (by omega), if_pos e]
  · rw [if_neg (by omega), if_neg e]
theorem zatN {c : Nat → Int} {a b : Nat} (h : a + b ≤ 4) : zat c a b = c (5 * a + b) := by
  rw [zat_t (by unfold zfits; omega), show ((a : Int) * 5 + (b : Int)).toNat = 5 * a + b by omega]
theorem zK_adn {K : Type} [Lean.Grind.CommRing K] {p : Int} {φ : Int → K} (h : zKp K p φ) {num x y : Int} {i j A B : Nat} (hij : i + j ≤ 4) (hAB : A + B ≤ 4) (c : Nat → Int) : φ (zadn p num x y i j c (5 * A + B)) = φ (c (5 * A + B)) + (if A ≤ i ∧ B ≤ j then φ num * zshK φ x i A * zshK φ y j B else 0) := by
  unfold zadn
  rw [show ((i : Int) + 1 - 0).toNat = i + 1 by omega]
  rw [zK_acc (fun c : Nat → Int => φ (c (5 * A + B))) (F := fun a => if B ≤ j ∧ a = A then φ num * zshK φ x i a * zshK φ y j B else 0) (i + 1) (fun a c ha => ?_), ka_s_if (P := B ≤ j) (fun a => φ num * zshK φ x i a * zshK φ y j B)]
  · by_cases e : A ≤ i ∧ B ≤ j
    · rw [if_pos e, if_pos (by omega)]
    · rw [if_neg e, if_neg (by omega)]
  unfold zadn_out
  rw [show 0 + (a : Int) = (a : Int) by omega, show ((j : Int) + 1 - 0).toNat = j + 1 by omega]
  rw [zK_acc (fun c : Nat → Int => φ (c (5 * A + B))) (F := fun b => if a = A ∧ b = B then φ num * zshK φ x i a * zshK φ y j b else 0) (j + 1) (fun b c hb => ?_), ka_s_if (P := a = A) (fun b => φ num * zshK φ x i a * zshK φ y j b)]
  · by_cases e : B ≤ j ∧ a = A
    · rw [if_pos e, if_pos (by omega)]
    · rw [if_neg e, if_neg (by omega)]
  unfold zadn_in
  rw [show 0 + (b : Int) = (b : Int) by omega, zK_putN h (by omega) hAB]
  by_cases e : a = A ∧ b = B
  · rw [if_pos e, if_pos e, h.em, h.ad, h.ml, h.em, h.ml, zK_sh h x (by omega) (by omega), zK_sh h y (by omega) (by omega), zatN (by omega), e.1, e.2]
  · rw [if_neg e, if_neg e]; grind
/-- LOCAL near, at 1 : m : 0, at 0 : 1 : 0 -/
def zLN {K : Type} [Lean.Grind.CommRing K] (φ : Int → K) (d : Nat → Int) (x y : Int) (A B : Nat) : K := ka_s (fun i => ka_s (fun j => if A ≤ i ∧ B ≤ j then φ (d (5 * i + j)) * zshK φ x i A * zshK φ y j B else 0) (4 - i + 1)) 5
def zLF {K : Type} [Lean.Grind.CommRing K] (φ : Int → K) (d : Nat → Int) (y : Int) (n A B : Nat) : K := ka_s (fun i => ka_s (fun j => if i + j + B = n ∧ A ≤ j then φ (d (5 * i + j)) * zshK φ y j A else 0) (4 - i + 1)) 5
def zLLl {K : Type} [Lean.Grind.CommRing K] (φ : Int → K) (d : Nat → Int) (n A B : Nat) : K := ka_s (fun i => ka_s (fun j => if i = A ∧ i + j + B = n then φ (d (5 * i + j)) else 0) (4 - i + 1)) 5
theorem zK_lookG {K : Type} [Lean.Grind.CommRing K] {p : Int} {φ : Int → K} (h : zKp K p φ) (d : Nat → Int) (x y z : Int) {A B : Nat} (G : Nat → Nat → K) (hG : ∀ (i j : Nat) (c : Nat → Int), i + j ≤ 4 → φ (zlook_in d p x y z (ztop d) i j c (5 * A + B)) = φ (c (5 * A + B)) + G i j) : φ (zlook d p x y z (5 * A + B)) = ka_s (fun i => ka_s (fun j => G i j) (4 - i + 1)) 5 := by
  unfold zlook zlookL
  rw [show (5 - 0 : Int).toNat = 5 from rfl]
  rw [zK_acc (fun c : Nat → Int => φ (c (5 * A + B))) (F := fun i => ka_s (fun j => G i j) (4 - i + 1)) 5 (fun i c hi => ?_), zz0k, h.z]
  · grind
  unfold zlook_out
  rw [show 0 + (i : Int) = (i : Int) by omega, show (4 - (i : Int) + 1 - 0).toNat = 4 - i + 1 by omega]
  refine zK_acc (fun c : Nat → Int => φ (c (5 * A + B))) (4 - i + 1) (fun j c hj => ?_)
  rw [show 0 + (j : Int) = (j : Int) by omega]
  exact hG i j c (by omega)
theorem zK_look1 {K : Type} [Lean.Grind.CommRing K] {p : Int} {φ : Int → K} (h : zKp K p φ) (d : Nat → Int) (x y : Int) {A B : Nat} (hAB : A + B ≤ 4) : φ (zlook d p x y 1 (5 * A + B)) = zLN φ d x y A B := by
  refine zK_lookG h d x y 1 (G := fun i j => if A ≤ i ∧ B ≤ j then φ (d (5 * i + j)) * zshK φ x i A * zshK φ y j B else 0) (fun i j c hij => ?_)
  unfold zlook_in
  rw [zatN hij]
  by_cases e : d (5 * i + j) = 0
  · rw [if_pos e, e, h.z]
    split <;> grind
  · rw [if_neg e, if_pos rfl]
    exact zK_adn h hij hAB c
theorem zK_look0 {K : Type} [Lean.Grind.CommRing K] {p : Int} {φ : Int → K} (h : zKp K p φ) (d : Nat → Int) (y : Int) {A B n : Nat} (hn : (n : Int) = ztop d) (hAB : A + B ≤ 4) : φ (zlook d p 0 y 0 (5 * A + B)) = zLLl φ d n A B := by
  have hn4 := zT_le d
  refine zK_lookG h d 0 y 0 (G := fun i j => if i = A ∧ i + j + B = n then φ (d (5 * i + j)) else 0) (fun i j c hij => ?_)
  unfold zlook_in
  rw [zatN hij]
  by_cases e : d (5 * i + j) = 0
  · rw [if_pos e, e, h.z]
    split <;> grind
  · have hl := (zT_all d).1 i j hij e
    rw [if_neg e, if_neg (by decide)]
    unfold zadf
    rw [if_pos rfl, ← hn, show ((n : Int) - i - j) = ((n - i - j : Nat) : Int) by omega, zK_putN h (by omega) hAB]
    by_cases q : i = A ∧ i + j + B = n
    · rw [if_pos (by omega), if_pos q, h.em, h.ad, zatN (by omega), show n - i - j = B by omega, q.1]
    · rw [if_neg (by omega), if_neg q]; grind
theorem zK_lookF {K : Type} [Lean.Grind.CommRing K] {p : Int} {φ : Int → K} (h : zKp K p φ) (d : Nat → Int) (y : Int) {A B n : Nat} (hn : (n : Int) = ztop d) (hAB : A + B ≤ 4) : φ (zlook d p 1 y 0 (5 * A + B)) = zLF φ d y n A B := by
  have hn4 := zT_le d
  refine zK_lookG h d 1 y 0 (G := fun i j => if i + j + B = n ∧ A ≤ j then φ (d (5 * i + j)) * zshK φ y j A else 0) (fun i j c hij => ?_)
  unfold zlook_in
  rw [zatN hij]
  by_cases e : d (5 * i + j) = 0
  · rw [if_pos e, e, h.z]
    split <;> grind
  · have hl := (zT_all d).1 i j hij e
    rw [if_neg e, if_neg (by decide)]
    unfold zadf
    rw [if_neg (by decide), ← hn, show ((n : Int) - i - j) = ((n - i - j : Nat) : Int) by omega, show ((j : Int) + 1 - 0).toNat = j + 1 by omega]
    rw [zK_acc (fun c : Nat → Int => φ (c (5 * A + B))) (F := fun b => if i + j + B = n ∧ b = A then φ (d (5 * i + j)) * zshK φ y j b else 0) (j + 1) (fun b c hb => ?_), ka_s_if (P := i + j + B = n) (fun b => φ (d (5 * i + j)) * zshK φ y j b)]
    · by_cases q : i + j + B = n ∧ A ≤ j
      · rw [if_pos q, if_pos (by omega)]
      · rw [if_neg q, if_neg (by omega)]
    unfold zadf_in
    rw [show 0 + (b : Int) = (b : Int) by omega, zK_putN h (by omega) hAB]
    by_cases q : i + j + B = n ∧ b = A
    · rw [if_pos (by omega), if_pos q, h.em, h.ad, h.ml, zK_sh h y (by omega) (by omega), zatN (by omega), show n - i - j = B by omega, q.2]
    · rw [if_neg (by omega), if_neg q]; grind
end ZMf
section ZMg
/-- a grid being laid: the frame, and one cell of it -/
def zLI (S0 : zS2) (q : Nat) (p : Int) (U : zS2) : Prop := zFm S0 U ∧ 0 ≤ U 3 q ∧ U 3 q < p
theorem zLI.p {S0 U : zS2} {q : Nat} {p : Int} (h : zLI S0 q p U) : U 0 10 = S0 0 10 := h.1.p
end ZMg
