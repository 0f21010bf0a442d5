section ZMf
theorem zK_accI {K : Type} [Lean.Grind.CommRing K] {σ : Type} (ob : σ → K) (I : σ → Prop) {step : Int → σ → σ} {a : Int} {s : σ} {F : Nat → K} (h0 : I s) : ∀ n : Nat, (∀ (k : Nat) x, k < n → I x → I (step (a + k) x) ∧ ob (step (a + k) x) = ob x + F k) → I (zfor step a s n) ∧ ob (zfor step a s n) = ob s + ka_s F n
  | 0, _ => ⟨h0, by show ob s = ob s + 0; grind⟩
  | n + 1, h => by
    obtain ⟨i1, i2⟩ := zK_accI ob I h0 n (fun k x hk => h k x (by omega))
    obtain ⟨j1, j2⟩ := h n _ (by omega) i1
    refine ⟨j1, ?_⟩
    show ob (step (a + n) (zfor step a s n)) = ob s + (ka_s F n + F n)
    rw [j2, i2]; grind
theorem ka_s_if {K : Type} [Lean.Grind.CommRing K] {P : Prop} [Decidable P] {B : Nat} (G : Nat → K) : ∀ n : Nat, ka_s (fun b => if P ∧ b = B then G b else 0) n = if P ∧ B < n then G B else 0
  | 0 => by rw [if_neg (by omega)]; rfl
  | n + 1 => by
    show ka_s (fun b => if P ∧ b = B then G b else 0) n + (if P ∧ n = B then G n else 0) = _
    rw [ka_s_if G n]
    by_cases hP : P
    · by_cases e : n = B
      · rw [if_neg (by omega), if_pos ⟨hP, e⟩, if_pos ⟨hP, by omega⟩, e]; grind
      · by_cases l : B < n
        · rw [if_pos ⟨hP, l⟩, if_neg (by omega), if_pos ⟨hP, by omega⟩]; grind
        · rw [if_neg (by omega), if_neg (by omega), if_neg (by omega)]; grind
    · rw [if_neg (fun q => hP q.1), if_neg (fun q => hP q.1), if_neg (fun q => hP q.1)]; grind
def zshK {K : Type} [Lean.Grind.CommRing K] (φ : Int → K) (x : Int) (n k : Nat) : K := φ (zCH (n * 5 + k)) * φ x ^ (n - k)
theorem zK_pw {K : Type} [Lean.Grind.CommRing K] {p : Int} {φ : Int → K} (h : zKp K p φ) (x : Int) : ∀ k, φ (zpow x p k) = φ x ^ k
  | 0 => by rw [Lean.Grind.Semiring.pow_zero]; exact h.o
  | k + 1 => by
    show φ ((zpow x p k * x) % p) = _
    rw [h.em, h.ml, zK_pw h x k, Lean.Grind.Semiring.pow_succ]
theorem zK_sh {K : Type} [Lean.Grind.CommRing K] {p : Int} {φ : Int → K} (h : zKp K p φ) (x : Int) {n k : Nat} (hk : k ≤ n) (hn : n ≤ 4) : φ (zsh p x n k) = zshK φ x n k := by
  unfold zsh zshK
  rw [if_pos (by omega), h.em, h.ml, zK_pw h, show ((n : Int) * 5 + (k : Int)).toNat = n * 5 + k by omega, show ((n : Int) - (k : Int)).toNat = n - k by omega]
theorem zK_putN {K : Type} [Lean.Grind.CommRing K] {p : Int} {φ : Int → K} (h : zKp K p φ) {c : Nat → Int} {a b A B : Nat} (hab : a + b ≤ 4) (hAB : A + B ≤ 4) (v : Int) : φ (zput c a b v (5 * A + B)) = if a = A ∧ b = B then φ v else φ (c (5 * A + B)) := by
  rw [zput_t (by unfold zfits; omega)]
  unfold zup
  by_cases e : a = A ∧ b = B
  · rw [if_pos (by omega), if_pos e]
  · rw [if_neg (by omega), if_neg e]
theorem zatN {c : Nat → Int} {a b : Nat} (h : a + b ≤ 4) : zat c a b = c (5 * a + b) := by
  rw [zat_t (by unfold zfits; omega), show ((a : Int) * 5 + (b : Int)).toNat = 5 * a + b by omega]
theorem zK_adn {K : Type} [Lean.Grind.CommRing K] {p : Int} {φ : Int → K} (h : zKp K p φ) {num x y : Int} {i j A B : Nat} (hij : i + j ≤ 4) (hAB : A + B ≤ 4) (c : Nat → Int) : φ (zadn p num x y i j c (5 * A + B)) = φ (c (5 * A + B)) + (if A ≤ i ∧ B ≤ j then φ num * zshK φ x i A * zshK φ y j B else 0) := by
  unfold zadn
  rw [show ((i : Int) + 1 - 0).toNat = i + 1 by omega]
  rw [zK_acc (fun c : Nat → Int => φ (c (5 * A + B))) (F := fun a => if B ≤ j ∧ a = A then φ num * zshK φ x i a * zshK φ y j B else 0) (i + 1) (fun a c ha => ?_), ka_s_if (P := B ≤ j) (fun a => φ num * zshK φ x i a * zshK φ y j B)]
  · by_cases e : A ≤ i ∧ B ≤ j
    · rw [if_pos e, if_pos (by omega)]
    · rw [if_neg e, if_neg (by omega)]
  unfold zadn_out
  rw [show 0 + (a : Int) = (a : Int) by omega, show ((j : Int) + 1 - 0).toNat = j + 1 by omega]
  rw [zK_acc (fun c : Nat → Int => φ (c (5 * A + B))) (F := fun b => if a = A ∧ b = B then φ num * zshK φ x i a * zshK φ y j b else 0) (j + 1) (fun b c hb => ?_), ka_s_if (P := a = A) (fun b => φ num * zshK φ x i a * zshK φ y j b)]
  · by_cases e : B ≤ j ∧ a = A
    · rw [if_pos e, if_pos (by omega)]
    · rw [if_neg e, if_neg (by omega)]
  unfold zadn_in
  rw [show 0 + (b : Int) = (b : Int) by omega, zK_putN h (by omega) hAB]
  by_cases e : a = A ∧ b = B
  · rw [if_pos e, if_pos e, h.em, h.ad, h.ml, h.em, h.ml, zK_sh h x (by omega) (by omega), zK_sh h y (by omega) (by omega), zatN (by omega), e.1, e.2]
  · rw [if_neg e, if_neg e]; grind
/-- LOCAL near, at 1 : m : 0, at 0 : 1 : 0 -/
def zLN {K : Type} [Lean.Grind.CommRing K] (φ : Int → K) (d : Nat → Int) (x y : Int) (A B : Nat) : K := ka_s (fun i => ka_s (fun j => if A ≤ i ∧ B ≤ j then φ (d (5 * i + j)) * zshK φ x i A * zshK φ y j B else 0) (4 - i + 1)) 5
def zLF {K : Type} [Lean.Grind.CommRing K] (φ : Int → K) (d : Nat → Int) (y : Int) (n A B : Nat) : K := ka_s (fun i => ka_s (fun j => if i + j + B = n ∧ A ≤ j then φ (d (5 * i + j)) * zshK φ y j A else 0) (4 - i + 1)) 5
def zLLl {K : Type} [Lean.Grind.CommRing K] (φ : Int → K) (d : Nat → Int) (n A B : Nat) : K := ka_s (fun i => ka_s (fun j => if i = A ∧ i + j + B = n then φ (d (5 * i + j)) else 0) (4 - i + 1)) 5
theorem zK_lookG {K : Type} [Lean.Grind.CommRing K] {p : Int} {φ : Int → K} (h : zKp K p φ) (d : Nat → Int) (x y z : Int) {A B : Nat} (G : Nat → Nat → K) (hG : ∀ (i j : Nat) (c : Nat → Int), i + j ≤ 4 → φ (zlook_in d p x y z (ztop d) i j c (5 * A + B)) = φ (c (5 * A + B)) + G i j) : φ (zlook d p x y z (5 * A + B)) = ka_s (fun i => ka_s (fun j => G i j) (4 - i + 1)) 5 := by
  unfold zlook zlookL
  rw [show (5 - 0 : Int).toNat = 5 from rfl]
  rw [zK_acc (fun c : Nat → Int => φ (c (5 * A + B))) (F := fun i => ka_s (fun j => G i j) (4 - i + 1)) 5 (fun i c hi => ?_), zz0k, h.z]
  · grind
  unfold zlook_out
  rw [show 0 + (i : Int) = (i : Int) by omega, show (4 - (i : Int) + 1 - 0).toNat = 4 - i + 1 by omega]
  refine zK_acc (fun c : Nat → Int => φ (c (5 * A + B))) (4 - i + 1) (fun j c hj => ?_)
  rw [show 0 + (j : Int) = (j : Int) by omega]
  exact hG i j c (by omega)
theorem zK_look1 {K : Type} [Lean.Grind.CommRing K] {p : Int} {φ : Int → K} (h : zKp K p φ) (d : Nat → Int) (x y : Int) {A B : Nat} (hAB : A + B ≤ 4) : φ (zlook d p x y 1 (5 * A + B)) = zLN φ d x y A B := by
  refine zK_lookG h d x y 1 (G := fun i j => if A ≤ i ∧ B ≤ j then φ (d (5 * i + j)) * zshK φ x i A * zshK φ y j B else 0) (fun i j c hij => ?_)
  unfold zlook_in
  rw [zatN hij]
  by_cases e : d (5 * i + j) = 0
  · rw [if_pos e, e, h.z]
    split <;> grind
  · rw [if_neg e, if_pos rfl]
    exact zK_adn h hij hAB c
theorem zK_look0 {K : Type} [Lean.Grind.CommRing K] {p : Int} {φ : Int → K} (h : zKp K p φ) (d : Nat → Int) (y : Int) {A B n : Nat} (hn : (n : Int) = ztop d) (hAB : A + B ≤ 4) : φ (zlook d p 0 y 0 (5 * A + B)) = zLLl φ d n A B := by
  have hn4 := zT_le d
  refine zK_lookG h d 0 y 0 (G := fun i j => if i = A ∧ i + j + B = n then φ (d (5 * i + j)) else 0) (fun i j c hij => ?_)
  unfold zlook_in
  rw [zatN hij]
  by_cases e : d (5 * i + j) = 0
  · rw [if_pos e, e, h.z]
    split <;> grind
  · have hl := (zT_all d).1 i j hij e
    rw [if_neg e, if_neg (by decide)]
    unfold zadf
    rw [if_pos rfl, ← hn, show ((n : Int) - i - j) = ((n - i - j : Nat) : Int) by omega, zK_putN h (by omega) hAB]
    by_cases q : i = A ∧ i + j + B = n
    · rw [if_pos (by omega), if_pos q, h.em, h.ad, zatN (by omega), show n - i - j = B by omega, q.1]
    · rw [if_neg (by omega), if_neg q]; grind
theorem zK_lookF {K : Type} [Lean.Grind.CommRing K] {p : Int} {φ : Int → K} (h : zKp K p φ) (d : Nat → Int) (y : Int) {A B n : Nat} (hn : (n : Int) = ztop d) (hAB : A + B ≤ 4) : φ (zlook d p 1 y 0 (5 * A + B)) = zLF φ d y n A B := by
  have hn4 := zT_le d
  refine zK_lookG h d 1 y 0 (G := fun i j => if i + j + B = n ∧ A ≤ j then φ (d (5 * i + j)) * zshK φ y j A else 0) (fun i j c hij => ?_)
  unfold zlook_in
  rw [zatN hij]
  by_cases e : d (5 * i + j) = 0
  · rw [if_pos e, e, h.z]
    split <;> grind
  · have hl := (zT_all d).1 i j hij e
    rw [if_neg e, if_neg (by decide)]
    unfold zadf
    rw [if_neg (by decide), ← hn, show ((n : Int) - i - j) = ((n - i - j : Nat) : Int) by omega, show ((j : Int) + 1 - 0).toNat = j + 1 by omega]
    rw [zK_acc (fun c : Nat → Int => φ (c (5 * A + B))) (F := fun b => if i + j + B = n ∧ b = A then φ (d (5 * i + j)) * zshK φ y j b else 0) (j + 1) (fun b c hb => ?_), ka_s_if (P := i + j + B = n) (fun b => φ (d (5 * i + j)) * zshK φ y j b)]
    · by_cases q : i + j + B = n ∧ A ≤ j
      · rw [if_pos q, if_pos (by omega)]
      · rw [if_neg q, if_neg (by omega)]
    unfold zadf_in
    rw [show 0 + (b : Int) = (b : Int) by omega, zK_putN h (by omega) hAB]
    by_cases q : i + j + B = n ∧ b = A
    · rw [if_pos (by omega), if_pos q, h.em, h.ad, h.ml, zK_sh h y (by omega) (by omega), zatN (by omega), show n - i - j = B by omega, q.2]
    · rw [if_neg (by omega), if_neg q]; grind
end ZMf
section ZMg
theorem zm_CH : ∀ i : Nat, i < 5 → ∀ k : Nat, k < 5 → k ≤ i → zm_sets1 i k = zCH (i * 5 + k) := by decide +kernel
/-- a grid being laid: the frame, and one cell of it -/
def zLI (S0 : zS2) (q : Nat) (p : Int) (U : zS2) : Prop := zFm S0 U ∧ 0 ≤ U 3 q ∧ U 3 q < p
theorem zLI.p {S0 U : zS2} {q : Nat} {p : Int} (h : zLI S0 q p U) : U 0 10 = S0 0 10 := h.1.p
theorem zM_sets {K : Type} [Lean.Grind.CommRing K] {p : Int} {φ : Int → K} (h : zKp K p φ) {S0 U : zS2} {g i j A B : Nat} (hS : S0 0 10 = p) (hp : 0 < p) (hg : 140 ≤ g) (hi : i ≤ 4) (hj : j ≤ 4) (hA : A ≤ 4) (hB : B ≤ 4) (hU : zLI S0 (25 * g + 5 * A + B) p U) (v : Int) : zLI S0 (25 * g + 5 * A + B) p (zm_sets U g i j v) ∧ φ ((zm_sets U g i j v) 3 (25 * g + 5 * A + B)) = if i = A ∧ j = B then φ v else φ (U 3 (25 * g + 5 * A + B)) := by
  have hU0 : U 0 10 = p := by rw [hU.p, hS]
  have e : zm_sets U g i j v = za U 3 ((((25 * (g : Int)) + (5 * (i : Int))) + (j : Int)).toNat) (v % p) := by
    show za U 3 ((((25 * (g : Int)) + (5 * (i : Int))) + (j : Int)).toNat) (zm_modulo U v) = _
    rw [zB_mod hU0 hp]
  have e2 : (((25 * (g : Int)) + (5 * (i : Int))) + (j : Int)).toNat = 25 * g + 5 * i + j := by omega
  rw [e, e2]
  by_cases q : i = A ∧ j = B
  · rw [if_pos q, q.1, q.2]
    refine ⟨⟨hU.1.za (by omega), ?_⟩, ?_⟩
    · rw [za_same]; exact ⟨Int.emod_nonneg _ (by omega), Int.emod_lt_of_pos _ hp⟩
    · rw [za_same, h.em]
  · rw [if_neg q]
    refine ⟨⟨hU.1.za (by omega), ?_⟩, ?_⟩
    · rw [za_ne (by omega)]; exact hU.2
    · rw [za_ne (by omega)]
theorem zM_cell {U : zS2} {g i j : Nat} : zm_cell U g i j = U 3 (25 * g + 5 * i + j) := by
  unfold zm_cell
  rw [show (((25 * (g : Int)) + (5 * (i : Int))) + (j : Int)).toNat = 25 * g + 5 * i + j by omega]
theorem zM_adp {K : Type} [Lean.Grind.CommRing K] {p : Int} {φ : Int → K} (h : zKp K p φ) {S0 U : zS2} {g i j A B : Nat} (hS : S0 0 10 = p) (hp : 0 < p) (hg : 140 ≤ g) (hi : i ≤ 4) (hj : j ≤ 4) (hA : A ≤ 4) (hB : B ≤ 4) (hU : zLI S0 (25 * g + 5 * A + B) p U) (by_ a : Int) : zLI S0 (25 * g + 5 * A + B) p (zm_addsPowers U g by_ a i j) ∧ φ ((zm_addsPowers U g by_ a i j) 3 (25 * g + 5 * A + B)) = φ (U 3 (25 * g + 5 * A + B)) + (if j = B ∧ A ≤ i then φ by_ * zshK φ a i A else 0) := by
  show zLI S0 (25 * g + 5 * A + B) p (zfor (zm_addsPowers_L3 g by_ a i j) 0 U ((i : Int) + 1 - 0).toNat) ∧ φ ((zfor (zm_addsPowers_L3 g by_ a i j) 0 U ((i : Int) + 1 - 0).toNat) 3 (25 * g + 5 * A + B)) = _
  rw [show ((i : Int) + 1 - 0).toNat = i + 1 by omega]
  obtain ⟨k1, k2⟩ := zK_accI (fun S : zS2 => φ (S 3 (25 * g + 5 * A + B))) (zLI S0 (25 * g + 5 * A + B) p) (step := zm_addsPowers_L3 g by_ a i j) (a := 0) (F := fun k => if j = B ∧ k = A then φ by_ * zshK φ a i k else 0) hU (i + 1) (fun k V hk hV => by
    have hV0 : V 0 10 = p := by rw [hV.p, hS]
    obtain ⟨s1, s2⟩ := zM_sets h (i := k) (j := j) (A := A) (B := B) hS hp hg (by omega) hj hA hB hV (zm_cell V g k j + (Int.tmod ((Int.tmod (by_ * zm_sets1 i k) (V 0 10)) * zm_power V a ((i : Int) - k)) (V 0 10)))
    rw [show 0 + (k : Int) = (k : Int) by omega]
    show zLI S0 (25 * g + 5 * A + B) p (zm_sets V g k j (zm_cell V g k j + (Int.tmod ((Int.tmod (by_ * zm_sets1 i k) (V 0 10)) * zm_power V a ((i : Int) - k)) (V 0 10)))) ∧ φ ((zm_sets V g k j (zm_cell V g k j + (Int.tmod ((Int.tmod (by_ * zm_sets1 i k) (V 0 10)) * zm_power V a ((i : Int) - k)) (V 0 10)))) 3 (25 * g + 5 * A + B)) = _
    refine ⟨s1, ?_⟩
    rw [s2]
    by_cases q : j = B ∧ k = A
    · rw [if_pos (by omega), if_pos q, h.ad, hV0, h.tm, h.ml, h.tm, h.ml, zK_pow h hV0 hp, zM_cell, zm_CH i (by omega) k (by omega) (by omega), show ((i : Int) - (k : Int)).toNat = i - k by omega, q.1, q.2]
      unfold zshK
      grind
    · rw [if_neg (by omega), if_neg q]; grind)
  refine ⟨k1, ?_⟩
  rw [k2, ka_s_if (P := j = B) (fun k => φ by_ * zshK φ a i k)]
  by_cases q : j = B ∧ A ≤ i
  · rw [if_pos q, if_pos (by omega)]
  · rw [if_neg q, if_neg (by omega)]
theorem zM_empties {S : zS2} {g : Nat} (k : Nat) (hk : k < 25) : (zm_empties S g) 3 (25 * g + k) = 0 := by
  have h : ∀ n : Nat, ∀ k : Nat, k < n → (zfor (zm_empties_L2 g) 0 S n) 3 (25 * g + k) = 0 := fun n => by
    induction n with
    | zero => intro k hk; exact absurd hk (Nat.not_lt_zero _)
    | succ n ih =>
      intro k hk
      show (za (zfor (zm_empties_L2 g) 0 S n) 3 (((25 * (g : Int)) + (0 + (n : Int))).toNat) 0) 3 (25 * g + k) = 0
      rw [show ((25 * (g : Int)) + (0 + (n : Int))).toNat = 25 * g + n by omega]
      by_cases e : k = n
      · rw [e, za_same]
      · rw [za_ne (by omega)]; exact ih k (by omega)
  exact h 25 k hk
theorem zM_lays {K : Type} [Lean.Grind.CommRing K] {p : Int} {φ : Int → K} (h : zKp K p φ) {S : zS2} {cv pt : Int} {d : Nat → Int} {n g A B : Nat} (hS : S 0 10 = p) (hp : 0 < p) (hg : 140 ≤ g) (hAB : A + B ≤ 4) (hc : 0 ≤ cv ∧ cv < 140) (hpt : 0 ≤ pt) (hd : ∀ i j : Nat, i + j ≤ 4 → zm_cell S cv i j = d (5 * i + j)) (hn : zm_degreeOf S cv = n) (hn4 : n ≤ 4) (hnd : ∀ i j : Nat, i + j ≤ 4 → n < i + j → d (5 * i + j) = 0) :
    zLI S (25 * g + 5 * A + B) p (zm_laysLocal S g cv pt) ∧ φ ((zm_laysLocal S g cv pt) 3 (25 * g + 5 * A + B)) = if pt < p * p then zLN φ d (zpx pt p) (zpy pt p) A B else if pt = p * p + p then zLLl φ d n A B else if pt < p * p + p then zLF φ d (zpy pt p) n A B else zLLl φ d n A B := by
  have e0 : zm_laysLocal S g cv pt = zfor (zm_laysLocal_L15 g cv pt n) 0 (zm_empties S g) (n + 1) := by
    show zfor (zm_laysLocal_L15 g cv pt (zm_degreeOf S cv)) 0 (zm_empties S g) ((zm_degreeOf S cv) + 1 - 0).toNat = _
    rw [hn, show ((n : Int) + 1 - 0).toNat = n + 1 by omega]
  have i0 : zLI S (25 * g + 5 * A + B) p (zm_empties S g) := ⟨zFm_empties (by omega), by
    rw [show 25 * g + 5 * A + B = 25 * g + (5 * A + B) by omega, zM_empties _ (by omega)]; omega⟩
  have z0 : φ ((zm_empties S g) 3 (25 * g + 5 * A + B)) = 0 := by
    rw [show 25 * g + 5 * A + B = 25 * g + (5 * A + B) by omega, zM_empties _ (by omega), h.z]
  obtain ⟨G, hGd⟩ : ∃ G : Nat → Nat → K, G = fun i j => if pt < p * p then (if A ≤ i ∧ B ≤ j then φ (d (5 * i + j)) * zshK φ (zpx pt p) i A * zshK φ (zpy pt p) j B else 0) else if pt = p * p + p then (if i = A ∧ i + j + B = n then φ (d (5 * i + j)) else 0) else if pt < p * p + p then (if i + j + B = n ∧ A ≤ j then φ (d (5 * i + j)) * zshK φ (zpy pt p) j A else 0) else (if i = A ∧ i + j + B = n then φ (d (5 * i + j)) else 0) := ⟨_, rfl⟩
  have hG0 : ∀ i j : Nat, d (5 * i + j) = 0 → G i j = 0 := fun i j e => by
    rw [hGd]
    show (if pt < p * p then (if A ≤ i ∧ B ≤ j then φ (d (5 * i + j)) * zshK φ (zpx pt p) i A * zshK φ (zpy pt p) j B else 0) else if pt = p * p + p then (if i = A ∧ i + j + B = n then φ (d (5 * i + j)) else 0) else if pt < p * p + p then (if i + j + B = n ∧ A ≤ j then φ (d (5 * i + j)) * zshK φ (zpy pt p) j A else 0) else (if i = A ∧ i + j + B = n then φ (d (5 * i + j)) else 0)) = 0
    rw [e, h.z]
    split
    · split <;> grind
    split
    · split <;> grind
    split
    · split <;> grind
    · split <;> grind
  have step : ∀ (i j : Nat) (V : zS2), i + j ≤ n → zLI S (25 * g + 5 * A + B) p V → zLI S (25 * g + 5 * A + B) p (zm_laysLocal_L25 g cv pt n i j V) ∧ φ ((zm_laysLocal_L25 g cv pt n i j V) 3 (25 * g + 5 * A + B)) = φ (V 3 (25 * g + 5 * A + B)) + G i j := by
    intro i j V hij hV
    have hV0 : V 0 10 = p := by rw [hV.p, hS]
    have hcell : zm_cell V cv i j = d (5 * i + j) := by
      rw [← hd i j (by omega)]
      unfold zm_cell
      exact hV.1.c (by omega)
    by_cases e : d (5 * i + j) = 0
    · have e1 : zm_laysLocal_L25 g cv pt n i j V = V := by
        unfold zm_laysLocal_L25
        show (if zm_cell V cv i j = 0 then V else _) = V
        rw [if_pos (by rw [hcell]; exact e)]
      rw [e1, hG0 i j e]
      exact ⟨hV, by grind⟩
    · have e1 : zm_laysLocal_L25 g cv pt n i j V = if zm_isNear V pt = 0 then (if zm_points V - 1 ≤ pt then zm_sets V g i ((n : Int) - i - j) (zm_cell V g i ((n : Int) - i - j) + d (5 * i + j)) else zm_addsPowers V g (d (5 * i + j)) (zm_yOf V pt) j ((n : Int) - i - j)) else zfor (zm_laysLocal_L75 g pt i j (d (5 * i + j))) 0 V ((j : Int) + 1 - 0).toNat := by
        unfold zm_laysLocal_L25
        show (if zm_cell V cv i j = 0 then V else _) = _
        rw [if_neg (by rw [hcell]; exact e), hcell]
        rfl
      rw [e1, zB_isNear hV0, zB_points hV0, zB_yOf hV0 hpt, hGd]
      show _ ∧ _ = _ + (if pt < p * p then (if A ≤ i ∧ B ≤ j then φ (d (5 * i + j)) * zshK φ (zpx pt p) i A * zshK φ (zpy pt p) j B else 0) else if pt = p * p + p then (if i = A ∧ i + j + B = n then φ (d (5 * i + j)) else 0) else if pt < p * p + p then (if i + j + B = n ∧ A ≤ j then φ (d (5 * i + j)) * zshK φ (zpy pt p) j A else 0) else (if i = A ∧ i + j + B = n then φ (d (5 * i + j)) else 0))
      by_cases hnear : pt < p * p
      · have ez : zpz pt p = 1 := if_pos hnear
        rw [ez, if_neg (by decide), if_pos hnear, show ((j : Int) + 1 - 0).toNat = j + 1 by omega]
        obtain ⟨k1, k2⟩ := zK_accI (fun S : zS2 => φ (S 3 (25 * g + 5 * A + B))) (zLI S (25 * g + 5 * A + B) p) (step := zm_laysLocal_L75 g pt i j (d (5 * i + j))) (a := 0) (F := fun k => if A ≤ i ∧ k = B then φ (d (5 * i + j)) * zshK φ (zpx pt p) i A * zshK φ (zpy pt p) j k else 0) hV (j + 1) (fun k W hk hW => by
          have hW0 : W 0 10 = p := by rw [hW.p, hS]
          have s := zM_adp h (i := i) (j := k) (A := A) (B := B) hS hp hg (by omega) (by omega) (by omega) (by omega) hW ((Int.tmod (d (5 * i + j) * zm_sets1 j k) (W 0 10)) * zm_power W (zm_yOf W pt) ((j : Int) - k)) (zm_xOf W pt)
          rw [show 0 + (k : Int) = (k : Int) by omega]
          show zLI S (25 * g + 5 * A + B) p (zm_addsPowers W g ((Int.tmod (d (5 * i + j) * zm_sets1 j k) (W 0 10)) * zm_power W (zm_yOf W pt) ((j : Int) - k)) (zm_xOf W pt) i k) ∧ φ ((zm_addsPowers W g ((Int.tmod (d (5 * i + j) * zm_sets1 j k) (W 0 10)) * zm_power W (zm_yOf W pt) ((j : Int) - k)) (zm_xOf W pt) i k) 3 (25 * g + 5 * A + B)) = _
          refine ⟨s.1, ?_⟩
          rw [s.2, zB_xOf hW0 hpt, zB_yOf hW0 hpt]
          by_cases q : A ≤ i ∧ k = B
          · rw [if_pos (by omega), if_pos q, h.ml, hW0, h.tm, h.ml, zK_pow h hW0 hp, zm_CH j (by omega) k (by omega) (by omega), show ((j : Int) - (k : Int)).toNat = j - k by omega]
            unfold zshK
            grind
          · rw [if_neg (by omega), if_neg q])
        refine ⟨k1, ?_⟩
        rw [k2, ka_s_if (P := A ≤ i) (fun k => φ (d (5 * i + j)) * zshK φ (zpx pt p) i A * zshK φ (zpy pt p) j k)]
        by_cases q : A ≤ i ∧ B ≤ j
        · rw [if_pos q, if_pos (by omega)]
        · rw [if_neg q, if_neg (by omega)]
      · have ez : zpz pt p = 0 := if_neg hnear
        rw [ez, if_pos rfl, if_neg hnear, show ((n : Int) - i - j) = ((n - i - j : Nat) : Int) by omega]
        have last : zLI S (25 * g + 5 * A + B) p (zm_sets V g i (n - i - j : Nat) (zm_cell V g i (n - i - j : Nat) + d (5 * i + j))) ∧ φ ((zm_sets V g i (n - i - j : Nat) (zm_cell V g i (n - i - j : Nat) + d (5 * i + j))) 3 (25 * g + 5 * A + B)) = φ (V 3 (25 * g + 5 * A + B)) + (if i = A ∧ i + j + B = n then φ (d (5 * i + j)) else 0) := by
          have s := zM_sets h (i := i) (j := n - i - j) (A := A) (B := B) hS hp hg (by omega) (by omega) (by omega) (by omega) hV (zm_cell V g i (n - i - j : Nat) + d (5 * i + j))
          refine ⟨s.1, ?_⟩
          rw [s.2]
          by_cases q : i = A ∧ i + j + B = n
          · rw [if_pos (by omega), if_pos q, h.ad, zM_cell, show n - i - j = B by omega, q.1]
          · rw [if_neg (by omega), if_neg q]; grind
        unfold zmany
        by_cases hl : p * p + p + 1 - 1 ≤ pt
        · rw [if_pos hl]
          by_cases hq : pt = p * p + p
          · rw [if_pos hq]; exact last
          · rw [if_neg hq, if_neg (by omega)]; exact last
        · rw [if_neg hl, if_neg (by omega), if_pos (by omega)]
          have s := zM_adp h (i := j) (j := n - i - j) (A := A) (B := B) hS hp hg (by omega) (by omega) (by omega) (by omega) hV (d (5 * i + j)) (zpy pt p)
          refine ⟨s.1, ?_⟩
          rw [s.2]
          by_cases q : i + j + B = n ∧ A ≤ j
          · rw [if_pos (by omega), if_pos q]
          · rw [if_neg (by omega), if_neg q]
  obtain ⟨r1, r2⟩ := zK_accI (fun S : zS2 => φ (S 3 (25 * g + 5 * A + B))) (zLI S (25 * g + 5 * A + B) p) (step := zm_laysLocal_L15 g cv pt n) (a := 0) (F := fun i => ka_s (fun j => G i j) (n - i + 1)) i0 (n + 1) (fun i V hi hV => by
    rw [show 0 + (i : Int) = (i : Int) by omega]
    show zLI S (25 * g + 5 * A + B) p (zfor (zm_laysLocal_L25 g cv pt n i) 0 V (((n : Int) - i) + 1 - 0).toNat) ∧ φ ((zfor (zm_laysLocal_L25 g cv pt n i) 0 V (((n : Int) - i) + 1 - 0).toNat) 3 (25 * g + 5 * A + B)) = _
    rw [show (((n : Int) - i) + 1 - 0).toNat = n - i + 1 by omega]
    exact zK_accI (fun S : zS2 => φ (S 3 (25 * g + 5 * A + B))) (zLI S (25 * g + 5 * A + B) p) hV (n - i + 1) (fun j W hj hW => by
      rw [show 0 + (j : Int) = (j : Int) by omega]
      exact step i j W (by omega) hW))
  rw [e0]
  refine ⟨r1, ?_⟩
  rw [r2, z0]
  have ext : ka_s (fun i => ka_s (fun j => G i j) (n - i + 1)) (n + 1) = ka_s (fun i => ka_s (fun j => G i j) (4 - i + 1)) 5 := by
    rw [ka_s_ext (m := n + 1) 5 (by omega) (fun i a b => ka_s_zero _ (fun j hj => hG0 i j (hnd i j (by omega) (by omega))))]
    refine ka_s_congr _ (fun i hi => ?_)
    rw [ka_s_ext (m := n - i + 1) (4 - i + 1) (by omega) (fun j a b => hG0 i j (hnd i j (by omega) (by omega)))]
  rw [ext, hGd]
  by_cases e1 : pt < p * p
  · simp only [if_pos e1]; unfold zLN; grind
  simp only [if_neg e1]
  by_cases e2 : pt = p * p + p
  · simp only [if_pos e2]; unfold zLLl; grind
  simp only [if_neg e2]
  by_cases e3 : pt < p * p + p
  · simp only [if_pos e3]; unfold zLF; grind
  · simp only [if_neg e3]; unfold zLLl; grind
/-- LOCAL in the model's grid is LOCAL of the class -/
theorem zB_lays {M : zCt} {S : zS2} (hB : zBs M S) (hX : zBx M) (hn6 : M.1 0 4 ≤ 6) {cv pt : Int} (hc : 0 ≤ cv ∧ cv < M.1 0 4) (hpt : zpt pt (M.1 0 3)) {A B : Nat} (hAB : A + B ≤ 4) : zFm S (zm_laysLocal S 141 cv pt) ∧ (zm_laysLocal S 141 cv pt) 3 (25 * 141 + 5 * A + B) = zlook (M.2.1 cv.toNat) (M.1 0 3) (zpx pt (M.1 0 3)) (zpy pt (M.1 0 3)) (zpz pt (M.1 0 3)) (5 * A + B) := by
  obtain ⟨K, iK, φ, h⟩ := zKp_ex hX.1
  have hp := zPr_2 hX.1
  obtain ⟨p, ep⟩ : ∃ p, p = M.1 0 3 := ⟨_, rfl⟩
  obtain ⟨d, ed⟩ : ∃ d, d = M.2.1 cv.toNat := ⟨_, rfl⟩
  have t := (hB.2.2 cv.toNat (by omega)).2.2
  have ct : ∀ i j : Nat, i + j ≤ 4 → zm_cell S cv i j = M.2.1 cv.toNat (5 * i + j) := fun i j hij => zB_cellN hB hc hij
  have tp := zB_top hB hc
  rw [← ed] at t ct tp
  rw [← ep] at h hp hpt
  rw [← ep, ← ed]
  obtain ⟨n, hn⟩ : ∃ n : Nat, (n : Int) = ztop d := ⟨(ztop d).toNat, by omega⟩
  have hn4 : n ≤ 4 := by have := zT_le d; omega
  obtain ⟨r1, r2⟩ := zM_lays h (S := S) (cv := cv) (pt := pt) (d := d) (n := n) (g := 141) (A := A) (B := B) (by rw [ep]; exact hB.1) (by omega) (by omega) hAB (by omega) hpt.1 ct (by rw [tp, hn]) hn4 (fun i j h1 h2 => zT_z h1 (by omega))
  refine ⟨r1.1, h.ij r1.2 (zlook_can (p := p) (by omega) _) ?_⟩
  refine Eq.trans r2 ?_
  have hz := hpt.2
  unfold zmany at hz
  by_cases e1 : pt < p * p
  · rw [if_pos e1, show zpz pt p = 1 from if_pos e1, zK_look1 h _ _ _ hAB]
  · rw [if_neg e1, show zpz pt p = 0 from if_neg e1]
    by_cases e2 : pt = p * p + p
    · rw [if_pos e2, show zpx pt p = 0 from by unfold zpx; rw [if_neg e1, if_pos e2], zK_look0 h _ _ hn hAB]
    · rw [if_neg e2, if_pos (by omega), show zpx pt p = 1 from by unfold zpx; rw [if_neg e1, if_neg e2], zK_lookF h _ _ hn hAB]
end ZMg
