section ZCp
/-- the tools: what stands there between two calls -/
def zAsp (cI cZ cM : ClassId) (g : Nat → va_E) (b : Nat) : Prop := ∃ (w lim p : Int) (R : Nat → Nat → Int) (K : Nat → Int), zSpace cI cZ cM g b w lim p R K ∧ ∀ i, zcan 31 (R i)
def zAst (g : Nat → va_E) (a : Nat) : Prop := ∃ x y z : Int, g a = .inr (9, [.int (zI x), .int (zI y), .int (zI z)])
def zVw (cI : ClassId) (g : Nat → va_E) (v : Nat) (p : Int) (c lw : Nat → Int) : Prop := g v = .inr (10, [.ref (v + 1), .ref (v + 3), .int (zI p)]) ∧ g (v + 1) = .inr (2, [.ref (v + 2)]) ∧ g (v + 2) = zA cI 25 c ∧ g (v + 3) = zA cI 5 lw
def zAvw (cI : ClassId) (g : Nat → va_E) (v : Nat) : Prop := ∃ (p : Int) (c lw : Nat → Int), zVw cI g v p c lw ∧ (2 ≤ p ∧ p ≤ 31) ∧ zcan 31 lw
def zAsh (cI : ClassId) (g : Nat → va_E) (t b : Nat) : Prop := ∃ cp cc cr ln : Nat → Int, zSh cI g t b cp cc cr ln
def zArd (cI : ClassId) (g : Nat → va_E) (r : Nat) : Prop := ∃ (x y : Nat) (sn p : Int) (o ki F G : Nat → Int), zRd cI g r x y sn p o ki F G ∧ zcan 31 F ∧ zcan 31 G
def zArg (cI : ClassId) (g : Nat → va_E) (r b : Nat) : Prop := ∃ (v : Nat) (p top lc lx ly wd : Int) (row col ln : Nat → Int), zRg cI g r b v p top lc lx ly wd row col ln ∧ ∀ k, -1 ≤ col k ∧ col k ≤ 93
def zAmk (cI cP : ClassId) (g : Nat → va_E) (m : Nat) : Prop := ∃ (p : Int) (md sc nx ny : Nat → Int) (x1 y1 z1 x2 y2 z2 : Int) (PX PY RS : Nat → Nat → Int), zMk cI cP g m p md sc nx ny x1 y1 z1 x2 y2 z2 PX PY RS
theorem zAsp.same {cI cZ cM : ClassId} {f g : Nat → va_E} {b : Nat} (h : zAsp cI cZ cM f b) (hs : ∀ q, b ≤ q → q < b + 97 → g q = f q) : zAsp cI cZ cM g b := by
  obtain ⟨w, lim, p, R, K, h1, h2⟩ := h
  exact ⟨w, lim, p, R, K, h1.same hs, h2⟩
theorem zAst.same {f g : Nat → va_E} {a : Nat} (h : zAst f a) (hs : g a = f a) : zAst g a := by
  obtain ⟨x, y, z, h1⟩ := h
  exact ⟨x, y, z, hs.trans h1⟩
theorem zVw.same {cI : ClassId} {f g : Nat → va_E} {v : Nat} {p : Int} {c lw : Nat → Int} (h : zVw cI f v p c lw) (hs : ∀ q, v ≤ q → q < v + 4 → g q = f q) : zVw cI g v p c lw := ⟨(hs _ (by omega) (by omega)).trans h.1, (hs _ (by omega) (by omega)).trans h.2.1, (hs _ (by omega) (by omega)).trans h.2.2.1, (hs _ (by omega) (by omega)).trans h.2.2.2⟩
theorem zAvw.same {cI : ClassId} {f g : Nat → va_E} {v : Nat} (h : zAvw cI f v) (hs : ∀ q, v ≤ q → q < v + 4 → g q = f q) : zAvw cI g v := by
  obtain ⟨p, c, lw, h1, h2⟩ := h
  exact ⟨p, c, lw, h1.same hs, h2⟩
theorem zAsh.same {cI : ClassId} {f g : Nat → va_E} {t b : Nat} (h : zAsh cI f t b) (hs : ∀ q, t ≤ q → q < t + 8 → g q = f q) : zAsh cI g t b := by
  obtain ⟨cp, cc, cr, ln, h1⟩ := h
  exact ⟨cp, cc, cr, ln, h1.same hs⟩
theorem zArd.same {cI : ClassId} {f g : Nat → va_E} {r : Nat} (h : zArd cI f r) (hs : ∀ q, r ≤ q → q < r + 5 → g q = f q) : zArd cI g r := by
  obtain ⟨x, y, sn, p, o, ki, F, G, h1, h2⟩ := h
  exact ⟨x, y, sn, p, o, ki, F, G, h1.same hs, h2⟩
theorem zArg.same {cI : ClassId} {f g : Nat → va_E} {r b : Nat} (h : zArg cI f r b) (hs : ∀ q, r ≤ q → q < r + 6 → g q = f q) : zArg cI g r b := by
  obtain ⟨v, p, top, lc, lx, ly, wd, row, col, ln, h1, h2⟩ := h
  exact ⟨v, p, top, lc, lx, ly, wd, row, col, ln, h1.same hs, h2⟩
theorem zAmk.same {cI cP : ClassId} {f g : Nat → va_E} {m : Nat} (h : zAmk cI cP f m) (hs : ∀ q, m ≤ q → q < m + 46 → g q = f q) : zAmk cI cP g m := by
  obtain ⟨p, md, sc, nx, ny, x1, y1, z1, x2, y2, z2, PX, PY, RS, h1⟩ := h
  exact ⟨p, md, sc, nx, ny, x1, y1, z1, x2, y2, z2, PX, PY, RS, h1.same hs⟩
/-- the memory of a CurveMeets: numbers and rows, the CURVES, the NAMES that were, the CURVES that were, the reader -/
abbrev zCt : Type := zS2 × zS2 × zS2 × (Nat → zS2) × zS2
def zX0 (cI cP cS cZ cM : ClassId) (o : Nat) (M : zCt) (g : Nat → va_E) : Prop := g o = .inr (11, [.ref (o + 98), .ref (o + 289), .ref (o + 304), .ref (o + 606), .ref (o + 607), .ref (o + 611), .ref (o + 615), .ref (o + 623), .ref (o + 628), .ref (o + 634), .ref (o + 680), .int (zI (M.1 0 0)), .int (zI (M.1 0 1))])
theorem zX0.same {cI cP cS cZ cM : ClassId} {o : Nat} {M : zCt} {f g : Nat → va_E} (h : zX0 cI cP cS cZ cM o M f) (hs : ∀ q, o ≤ q → q < o + 1 → g q = f q) : zX0 cI cP cS cZ cM o M g := (hs _ (by omega) (by omega)).trans h
def zX1 (cI cP cS cZ cM : ClassId) (o : Nat) (M : zCt) (g : Nat → va_E) : Prop := zAsp cI cZ cM g (o + 1)
theorem zX1.same {cI cP cS cZ cM : ClassId} {o : Nat} {M : zCt} {f g : Nat → va_E} (h : zX1 cI cP cS cZ cM o M f) (hs : ∀ q, o + 1 ≤ q → q < o + 98 → g q = f q) : zX1 cI cP cS cZ cM o M g := zAsp.same h (fun q h1 h2 => hs q (by omega) (by omega))
def zX2 (cI cP cS cZ cM : ClassId) (o : Nat) (M : zCt) (g : Nat → va_E) : Prop := zRdr cI cP cZ g (o + 98) (M.1 0 2) (M.1 2) M.2.2.2.2
theorem zX2.same {cI cP cS cZ cM : ClassId} {o : Nat} {M : zCt} {f g : Nat → va_E} (h : zX2 cI cP cS cZ cM o M f) (hs : ∀ q, o + 98 ≤ q → q < o + 289 → g q = f q) : zX2 cI cP cS cZ cM o M g := zRdr.same h (fun q h1 h2 => hs q (by omega) (by omega))
def zX3 (cI cP cS cZ cM : ClassId) (o : Nat) (M : zCt) (g : Nat → va_E) : Prop := zShelf cI cP g (o + 289) (M.1 0 3) (M.1 0 4) M.2.1 (M.1 3)
theorem zX3.same {cI cP cS cZ cM : ClassId} {o : Nat} {M : zCt} {f g : Nat → va_E} (h : zX3 cI cP cS cZ cM o M f) (hs : ∀ q, o + 289 ≤ q → q < o + 304 → g q = f q) : zX3 cI cP cS cZ cM o M g := zShelf.same h (fun q h1 h2 => hs q (by omega) (by omega))
def zX4 (cI cP cS cZ cM : ClassId) (o : Nat) (M : zCt) (g : Nat → va_E) : Prop := zPast cI cP cS g (o + 304) (M.1 0 5) (M.1 0 6) (M.1 40) (M.1 41) M.2.2.2.1 M.2.2.1
theorem zX4.same {cI cP cS cZ cM : ClassId} {o : Nat} {M : zCt} {f g : Nat → va_E} (h : zX4 cI cP cS cZ cM o M f) (hs : ∀ q, o + 304 ≤ q → q < o + 606 → g q = f q) : zX4 cI cP cS cZ cM o M g := zPast.same h (fun q h1 h2 => hs q (by omega) (by omega))
def zX5 (cI cP cS cZ cM : ClassId) (o : Nat) (M : zCt) (g : Nat → va_E) : Prop := g (o + 606) = .inr (9, [.int (zI (M.1 0 10)), .int (zI (M.1 0 11)), .int (zI (M.1 0 12))])
theorem zX5.same {cI cP cS cZ cM : ClassId} {o : Nat} {M : zCt} {f g : Nat → va_E} (h : zX5 cI cP cS cZ cM o M f) (hs : ∀ q, o + 606 ≤ q → q < o + 607 → g q = f q) : zX5 cI cP cS cZ cM o M g := (hs _ (by omega) (by omega)).trans h
def zX6 (cI cP cS cZ cM : ClassId) (o : Nat) (M : zCt) (g : Nat → va_E) : Prop := zVw cI g (o + 607) (M.1 0 13) (M.1 20) (M.1 21)
theorem zX6.same {cI cP cS cZ cM : ClassId} {o : Nat} {M : zCt} {f g : Nat → va_E} (h : zX6 cI cP cS cZ cM o M f) (hs : ∀ q, o + 607 ≤ q → q < o + 611 → g q = f q) : zX6 cI cP cS cZ cM o M g := zVw.same h (fun q h1 h2 => hs q (by omega) (by omega))
def zX7 (cI cP cS cZ cM : ClassId) (o : Nat) (M : zCt) (g : Nat → va_E) : Prop := zVw cI g (o + 611) (M.1 0 14) (M.1 22) (M.1 23)
theorem zX7.same {cI cP cS cZ cM : ClassId} {o : Nat} {M : zCt} {f g : Nat → va_E} (h : zX7 cI cP cS cZ cM o M f) (hs : ∀ q, o + 611 ≤ q → q < o + 615 → g q = f q) : zX7 cI cP cS cZ cM o M g := zVw.same h (fun q h1 h2 => hs q (by omega) (by omega))
def zX8 (cI cP cS cZ cM : ClassId) (o : Nat) (M : zCt) (g : Nat → va_E) : Prop := ∃ cc cr ln : Nat → Int, zSh cI g (o + 615) (o + 1) (M.1 24) cc cr ln
theorem zX8.same {cI cP cS cZ cM : ClassId} {o : Nat} {M : zCt} {f g : Nat → va_E} (h : zX8 cI cP cS cZ cM o M f) (hs : ∀ q, o + 615 ≤ q → q < o + 623 → g q = f q) : zX8 cI cP cS cZ cM o M g := Exists.elim h (fun cc h => Exists.elim h (fun cr h => Exists.elim h (fun ln h => ⟨cc, cr, ln, zSh.same h (fun q h1 h2 => hs q (by omega) (by omega))⟩)))
def zX9 (cI cP cS cZ cM : ClassId) (o : Nat) (M : zCt) (g : Nat → va_E) : Prop := ∃ (x y : Nat) (F G : Nat → Int), zRd cI g (o + 623) x y (M.1 0 15) (M.1 0 16) (M.1 25) (M.1 26) F G ∧ zcan 31 F ∧ zcan 31 G
theorem zX9.same {cI cP cS cZ cM : ClassId} {o : Nat} {M : zCt} {f g : Nat → va_E} (h : zX9 cI cP cS cZ cM o M f) (hs : ∀ q, o + 623 ≤ q → q < o + 628 → g q = f q) : zX9 cI cP cS cZ cM o M g := Exists.elim h (fun x h => Exists.elim h (fun y h => Exists.elim h (fun F h => Exists.elim h (fun G h => ⟨x, y, F, G, zRd.same h.1 (fun q h1 h2 => hs q (by omega) (by omega)), h.2⟩))))
def zX10 (cI cP cS cZ cM : ClassId) (o : Nat) (M : zCt) (g : Nat → va_E) : Prop := zArg cI g (o + 628) (o + 1)
theorem zX10.same {cI cP cS cZ cM : ClassId} {o : Nat} {M : zCt} {f g : Nat → va_E} (h : zX10 cI cP cS cZ cM o M f) (hs : ∀ q, o + 628 ≤ q → q < o + 634 → g q = f q) : zX10 cI cP cS cZ cM o M g := zArg.same h (fun q h1 h2 => hs q (by omega) (by omega))
def zX11 (cI cP cS cZ cM : ClassId) (o : Nat) (M : zCt) (g : Nat → va_E) : Prop := ∃ (sc : Nat → Int) (x1 y1 z1 x2 y2 z2 : Int) (PX PY RS : Nat → Nat → Int), zMk cI cP g (o + 634) (M.1 0 17) (M.1 27) sc (M.1 28) (M.1 29) x1 y1 z1 x2 y2 z2 PX PY RS
theorem zX11.same {cI cP cS cZ cM : ClassId} {o : Nat} {M : zCt} {f g : Nat → va_E} (h : zX11 cI cP cS cZ cM o M f) (hs : ∀ q, o + 634 ≤ q → q < o + 680 → g q = f q) : zX11 cI cP cS cZ cM o M g := by
  obtain ⟨sc, x1, y1, z1, x2, y2, z2, PX, PY, RS, h⟩ := h
  exact ⟨sc, x1, y1, z1, x2, y2, z2, PX, PY, RS, zMk.same h (fun q h1 h2 => hs q (by omega) (by omega))⟩
def zX12 (cI cP cS cZ cM : ClassId) (o : Nat) (M : zCt) (g : Nat → va_E) : Prop := g (o + 680) = zA cI 5 (M.1 1)
theorem zX12.same {cI cP cS cZ cM : ClassId} {o : Nat} {M : zCt} {f g : Nat → va_E} (h : zX12 cI cP cS cZ cM o M f) (hs : ∀ q, o + 680 ≤ q → q < o + 681 → g q = f q) : zX12 cI cP cS cZ cM o M g := (hs _ (by omega) (by omega)).trans h
/-- a CurveMeets at o with that memory -/
def zCP (cI cP cS cZ cM : ClassId) (o : Nat) (M : zCt) (g : Nat → va_E) : Prop := zX0 cI cP cS cZ cM o M g ∧ zX1 cI cP cS cZ cM o M g ∧ zX2 cI cP cS cZ cM o M g ∧ zX3 cI cP cS cZ cM o M g ∧ zX4 cI cP cS cZ cM o M g ∧ zX5 cI cP cS cZ cM o M g ∧ zX6 cI cP cS cZ cM o M g ∧ zX7 cI cP cS cZ cM o M g ∧ zX8 cI cP cS cZ cM o M g ∧ zX9 cI cP cS cZ cM o M g ∧ zX10 cI cP cS cZ cM o M g ∧ zX11 cI cP cS cZ cM o M g ∧ zX12 cI cP cS cZ cM o M g
theorem zCP.c0 {cI cP cS cZ cM : ClassId} {o : Nat} {M : zCt} {g : Nat → va_E} (h : zCP cI cP cS cZ cM o M g) : zX0 cI cP cS cZ cM o M g := h.1
theorem zCP.c1 {cI cP cS cZ cM : ClassId} {o : Nat} {M : zCt} {g : Nat → va_E} (h : zCP cI cP cS cZ cM o M g) : zX1 cI cP cS cZ cM o M g := h.2.1
theorem zCP.c2 {cI cP cS cZ cM : ClassId} {o : Nat} {M : zCt} {g : Nat → va_E} (h : zCP cI cP cS cZ cM o M g) : zX2 cI cP cS cZ cM o M g := h.2.2.1
theorem zCP.c3 {cI cP cS cZ cM : ClassId} {o : Nat} {M : zCt} {g : Nat → va_E} (h : zCP cI cP cS cZ cM o M g) : zX3 cI cP cS cZ cM o M g := h.2.2.2.1
theorem zCP.c4 {cI cP cS cZ cM : ClassId} {o : Nat} {M : zCt} {g : Nat → va_E} (h : zCP cI cP cS cZ cM o M g) : zX4 cI cP cS cZ cM o M g := h.2.2.2.2.1
theorem zCP.c5 {cI cP cS cZ cM : ClassId} {o : Nat} {M : zCt} {g : Nat → va_E} (h : zCP cI cP cS cZ cM o M g) : zX5 cI cP cS cZ cM o M g := h.2.2.2.2.2.1
theorem zCP.c6 {cI cP cS cZ cM : ClassId} {o : Nat} {M : zCt} {g : Nat → va_E} (h : zCP cI cP cS cZ cM o M g) : zX6 cI cP cS cZ cM o M g := h.2.2.2.2.2.2.1
theorem zCP.c7 {cI cP cS cZ cM : ClassId} {o : Nat} {M : zCt} {g : Nat → va_E} (h : zCP cI cP cS cZ cM o M g) : zX7 cI cP cS cZ cM o M g := h.2.2.2.2.2.2.2.1
theorem zCP.c8 {cI cP cS cZ cM : ClassId} {o : Nat} {M : zCt} {g : Nat → va_E} (h : zCP cI cP cS cZ cM o M g) : zX8 cI cP cS cZ cM o M g := h.2.2.2.2.2.2.2.2.1
theorem zCP.c9 {cI cP cS cZ cM : ClassId} {o : Nat} {M : zCt} {g : Nat → va_E} (h : zCP cI cP cS cZ cM o M g) : zX9 cI cP cS cZ cM o M g := h.2.2.2.2.2.2.2.2.2.1
theorem zCP.c10 {cI cP cS cZ cM : ClassId} {o : Nat} {M : zCt} {g : Nat → va_E} (h : zCP cI cP cS cZ cM o M g) : zX10 cI cP cS cZ cM o M g := h.2.2.2.2.2.2.2.2.2.2.1
theorem zCP.c11 {cI cP cS cZ cM : ClassId} {o : Nat} {M : zCt} {g : Nat → va_E} (h : zCP cI cP cS cZ cM o M g) : zX11 cI cP cS cZ cM o M g := h.2.2.2.2.2.2.2.2.2.2.2.1
theorem zCP.c12 {cI cP cS cZ cM : ClassId} {o : Nat} {M : zCt} {g : Nat → va_E} (h : zCP cI cP cS cZ cM o M g) : zX12 cI cP cS cZ cM o M g := h.2.2.2.2.2.2.2.2.2.2.2.2
/-- what holds of it between calls -/
def zCI (M : zCt) : Prop :=
  (2 ≤ M.1 0 3 ∧ M.1 0 3 ≤ 31) ∧ (0 ≤ M.1 0 4 ∧ M.1 0 4 ≤ 6) ∧ (∀ k : Nat, (k : Int) < M.1 0 4 → zcan (M.1 0 3) (M.2.1 k)) ∧ ztape (M.1 0 2) (M.1 2) ∧ zrI0 M.2.2.2.2 ∧ (0 ≤ M.1 0 5 ∧ M.1 0 5 ≤ 20) ∧ (0 ≤ M.1 0 6 ∧ M.1 0 6 < 20) ∧
  ((2 ≤ M.1 0 13 ∧ M.1 0 13 ≤ 31) ∧ zcan (M.1 0 13) (M.1 20) ∧ zcan 31 (M.1 21)) ∧ (zcan 31 (M.1 22)) ∧ zcan 31 (M.1 24) ∧ (0 ≤ M.1 0 15 ∧ M.1 0 15 ≤ 2049) ∧ zcan 31 (M.1 27) ∧
  (∀ i : Nat, i < 20 → (2 ≤ M.1 40 i ∧ M.1 40 i ≤ 31) ∧ (0 ≤ M.1 41 i ∧ M.1 41 i ≤ 6) ∧ ∀ k : Nat, (k : Int) < M.1 41 i → zcan (M.1 40 i) (M.2.2.2.1 i k))
theorem zCI.p {M : zCt} (h : zCI M) : (2 ≤ M.1 0 3 ∧ M.1 0 3 ≤ 31) := h.1
theorem zCI.cn {M : zCt} (h : zCI M) : (0 ≤ M.1 0 4 ∧ M.1 0 4 ≤ 6) := h.2.1
theorem zCI.cv {M : zCt} (h : zCI M) : (∀ k : Nat, (k : Int) < M.1 0 4 → zcan (M.1 0 3) (M.2.1 k)) := h.2.2.1
theorem zCI.tp {M : zCt} (h : zCI M) : ztape (M.1 0 2) (M.1 2) := h.2.2.2.1
theorem zCI.rd {M : zCt} (h : zCI M) : zrI0 M.2.2.2.2 := h.2.2.2.2.1
theorem zCI.ct {M : zCt} (h : zCI M) : (0 ≤ M.1 0 5 ∧ M.1 0 5 ≤ 20) := h.2.2.2.2.2.1
theorem zCI.nx {M : zCt} (h : zCI M) : (0 ≤ M.1 0 6 ∧ M.1 0 6 < 20) := h.2.2.2.2.2.2.1
theorem zCI.vw {M : zCt} (h : zCI M) : ((2 ≤ M.1 0 13 ∧ M.1 0 13 ≤ 31) ∧ zcan (M.1 0 13) (M.1 20) ∧ zcan 31 (M.1 21)) := h.2.2.2.2.2.2.2.1
theorem zCI.v2 {M : zCt} (h : zCI M) : (zcan 31 (M.1 22)) := h.2.2.2.2.2.2.2.2.1
theorem zCI.pt {M : zCt} (h : zCI M) : zcan 31 (M.1 24) := h.2.2.2.2.2.2.2.2.2.1
theorem zCI.st {M : zCt} (h : zCI M) : (0 ≤ M.1 0 15 ∧ M.1 0 15 ≤ 2049) := h.2.2.2.2.2.2.2.2.2.2.1
theorem zCI.md {M : zCt} (h : zCI M) : zcan 31 (M.1 27) := h.2.2.2.2.2.2.2.2.2.2.2.1
theorem zCI.ps {M : zCt} (h : zCI M) : (∀ i : Nat, i < 20 → (2 ≤ M.1 40 i ∧ M.1 40 i ≤ 31) ∧ (0 ≤ M.1 41 i ∧ M.1 41 i ≤ 6) ∧ ∀ k : Nat, (k : Int) < M.1 41 i → zcan (M.1 40 i) (M.2.2.2.1 i k)) := h.2.2.2.2.2.2.2.2.2.2.2.2
theorem zCI.poly {M : zCt} (h : zCI M) {k : Int} (h0 : 0 ≤ k) (h1 : k < M.1 0 4) : zcan (M.1 0 3) (M.2.1 k.toNat) := h.cv k.toNat (by omega)
theorem zCI.poly31 {M : zCt} (h : zCI M) {k : Int} (h0 : 0 ≤ k) (h1 : k < M.1 0 4) : zcan 31 (M.2.1 k.toNat) := zcan_le (h.poly h0 h1) h.p.2
/-- what is seen from outside is the same -/
def zVE (N M : zCt) : Prop := N.2 = M.2 ∧ ∀ k i : Nat, ¬ (20 ≤ k ∧ k < 40) → ¬ (k = 0 ∧ 10 ≤ i) → N.1 k i = M.1 k i
theorem zVE.rf {M : zCt} : zVE M M := ⟨rfl, fun _ _ _ _ => rfl⟩
theorem zVE.tr {M N P : zCt} (h : zVE P N) (h2 : zVE N M) : zVE P M := ⟨h.1.trans h2.1, fun k i a b => (h.2 k i a b).trans (h2.2 k i a b)⟩
theorem zVE.of {M : zCt} {A : zS2} (h : ∀ k i : Nat, ¬ (20 ≤ k ∧ k < 40) → ¬ (k = 0 ∧ 10 ≤ i) → A k i = M.1 k i) : zVE (A, M.2) M := ⟨rfl, h⟩
theorem zCP.poly {cI cP cS cZ cM : ClassId} {o : Nat} {M : zCt} {g : Nat → va_E} (h : zCP cI cP cS cZ cM o M g) {k : Nat} (hk : k < 6) : zPoly cI g (o + 289 + 3 + 2 * k) (M.2.1 k) := h.c3.2.2.2 k hk
theorem zup_ap {c : Nat → Int} {k j : Nat} {x : Int} : zup c k x j = if j = k then x else c j := rfl
theorem za_ap {S : zS2} {k i : Nat} {x : Int} {a b : Nat} : za S k i x a b = if a = k ∧ b = i then x else S a b := by
  by_cases h : a = k ∧ b = i
  · rw [if_pos h, h.1, h.2, za_same]
  · rw [if_neg h, za_ne h]
theorem za_row {S : zS2} {k i : Nat} {x : Int} {a : Nat} (h : a ≠ k) : za S k i x a = S a := funext fun b => za_ne (fun q => h q.1)
noncomputable def zw_go (M : zCt) (n p : Int) : zCt := (za (za (za M.1 0 10 (zgo n p (M.1 0 10) (zpx n p))) 0 11 (zgo n p (M.1 0 11) (zpy n p))) 0 12 (zgo n p (M.1 0 12) (zpz n p)), M.2)
theorem zr_go {cI cP cS cZ cM : ClassId} {o : Nat} {M : zCt} {f g : Nat → va_E} {n p : Int} (hP : zCP cI cP cS cZ cM o M f) (hg : g = va_up f (o + 606) (.inr (9, [.int (zI (zgo n p (M.1 0 10) (zpx n p))), .int (zI (zgo n p (M.1 0 11) (zpy n p))), .int (zI (zgo n p (M.1 0 12) (zpz n p)))]))) : zCP cI cP cS cZ cM o (zw_go M n p) g := by
  have hs : ∀ q, q ≠ o + 606 → g q = f q := fun q hq => by rw [hg]; exact va_up_ne _ _ hq
  exact ⟨(show zX0 cI cP cS cZ cM o (zw_go M n p) g from zX0.same hP.c0 (fun q h1 h2 => hs q (by omega))),
    (show zX1 cI cP cS cZ cM o (zw_go M n p) g from zX1.same hP.c1 (fun q h1 h2 => hs q (by omega))),
    (show zX2 cI cP cS cZ cM o (zw_go M n p) g from zX2.same hP.c2 (fun q h1 h2 => hs q (by omega))),
    (show zX3 cI cP cS cZ cM o (zw_go M n p) g from zX3.same hP.c3 (fun q h1 h2 => hs q (by omega))),
    (show zX4 cI cP cS cZ cM o (zw_go M n p) g from zX4.same hP.c4 (fun q h1 h2 => hs q (by omega))),
    (show zX5 cI cP cS cZ cM o (zw_go M n p) g from by rw [hg]; exact va_up_self _ _ _),
    (show zX6 cI cP cS cZ cM o (zw_go M n p) g from zX6.same hP.c6 (fun q h1 h2 => hs q (by omega))),
    (show zX7 cI cP cS cZ cM o (zw_go M n p) g from zX7.same hP.c7 (fun q h1 h2 => hs q (by omega))),
    (show zX8 cI cP cS cZ cM o (zw_go M n p) g from zX8.same hP.c8 (fun q h1 h2 => hs q (by omega))),
    (show zX9 cI cP cS cZ cM o (zw_go M n p) g from zX9.same hP.c9 (fun q h1 h2 => hs q (by omega))),
    (show zX10 cI cP cS cZ cM o (zw_go M n p) g from zX10.same hP.c10 (fun q h1 h2 => hs q (by omega))),
    (show zX11 cI cP cS cZ cM o (zw_go M n p) g from zX11.same hP.c11 (fun q h1 h2 => hs q (by omega))),
    (show zX12 cI cP cS cZ cM o (zw_go M n p) g from zX12.same hP.c12 (fun q h1 h2 => hs q (by omega)))⟩
noncomputable def zw_look1 (M : zCt) (d : Nat → Int) (p : Int) : zCt := (zset (za M.1 0 13 p) 20 (zlook d p (M.1 0 10) (M.1 0 11) (M.1 0 12)), M.2)
theorem zr_look1 {cI cP cS cZ cM : ClassId} {o : Nat} {M : zCt} {f g : Nat → va_E} {d : Nat → Int} {p : Int} (hP : zCP cI cP cS cZ cM o M f) (hg : g = va_up (va_up f (o + 607) (.inr (10, [.ref (o + 607 + 1), .ref (o + 607 + 3), .int (zI p)]))) (o + 607 + 2) (zA cI 25 (zlook d p (M.1 0 10) (M.1 0 11) (M.1 0 12)))) : zCP cI cP cS cZ cM o (zw_look1 M d p) g := by
  have hs : ∀ q, q ≠ o + 607 ∧ q ≠ o + 607 + 2 → g q = f q := fun q hq => by rw [hg, va_up_ne _ _ hq.2, va_up_ne _ _ hq.1]
  exact ⟨(show zX0 cI cP cS cZ cM o (zw_look1 M d p) g from zX0.same hP.c0 (fun q h1 h2 => hs q (by omega))),
    (show zX1 cI cP cS cZ cM o (zw_look1 M d p) g from zX1.same hP.c1 (fun q h1 h2 => hs q (by omega))),
    (show zX2 cI cP cS cZ cM o (zw_look1 M d p) g from zX2.same hP.c2 (fun q h1 h2 => hs q (by omega))),
    (show zX3 cI cP cS cZ cM o (zw_look1 M d p) g from zX3.same hP.c3 (fun q h1 h2 => hs q (by omega))),
    (show zX4 cI cP cS cZ cM o (zw_look1 M d p) g from zX4.same hP.c4 (fun q h1 h2 => hs q (by omega))),
    (show zX5 cI cP cS cZ cM o (zw_look1 M d p) g from zX5.same hP.c5 (fun q h1 h2 => hs q (by omega))),
    (show zX6 cI cP cS cZ cM o (zw_look1 M d p) g from by
    obtain ⟨a1, a2, a3, a4⟩ := hP.c6
    refine ⟨?_, ?_, ?_, ?_⟩
    · rw [hg]; exact (va_up_ne _ _ (by omega)).trans (va_up_self _ _ _)
    · exact (hs _ (by omega)).trans a2
    · rw [hg]; exact va_up_self _ _ _
    · exact (hs _ (by omega)).trans a4),
    (show zX7 cI cP cS cZ cM o (zw_look1 M d p) g from zX7.same hP.c7 (fun q h1 h2 => hs q (by omega))),
    (show zX8 cI cP cS cZ cM o (zw_look1 M d p) g from zX8.same hP.c8 (fun q h1 h2 => hs q (by omega))),
    (show zX9 cI cP cS cZ cM o (zw_look1 M d p) g from zX9.same hP.c9 (fun q h1 h2 => hs q (by omega))),
    (show zX10 cI cP cS cZ cM o (zw_look1 M d p) g from zX10.same hP.c10 (fun q h1 h2 => hs q (by omega))),
    (show zX11 cI cP cS cZ cM o (zw_look1 M d p) g from zX11.same hP.c11 (fun q h1 h2 => hs q (by omega))),
    (show zX12 cI cP cS cZ cM o (zw_look1 M d p) g from zX12.same hP.c12 (fun q h1 h2 => hs q (by omega)))⟩
noncomputable def zw_look2 (M : zCt) (d : Nat → Int) (p : Int) : zCt := (zset (za M.1 0 14 p) 22 (zlook d p (M.1 0 10) (M.1 0 11) (M.1 0 12)), M.2)
theorem zr_look2 {cI cP cS cZ cM : ClassId} {o : Nat} {M : zCt} {f g : Nat → va_E} {d : Nat → Int} {p : Int} (hP : zCP cI cP cS cZ cM o M f) (hg : g = va_up (va_up f (o + 611) (.inr (10, [.ref (o + 611 + 1), .ref (o + 611 + 3), .int (zI p)]))) (o + 611 + 2) (zA cI 25 (zlook d p (M.1 0 10) (M.1 0 11) (M.1 0 12)))) : zCP cI cP cS cZ cM o (zw_look2 M d p) g := by
  have hs : ∀ q, q ≠ o + 611 ∧ q ≠ o + 611 + 2 → g q = f q := fun q hq => by rw [hg, va_up_ne _ _ hq.2, va_up_ne _ _ hq.1]
  exact ⟨(show zX0 cI cP cS cZ cM o (zw_look2 M d p) g from zX0.same hP.c0 (fun q h1 h2 => hs q (by omega))),
    (show zX1 cI cP cS cZ cM o (zw_look2 M d p) g from zX1.same hP.c1 (fun q h1 h2 => hs q (by omega))),
    (show zX2 cI cP cS cZ cM o (zw_look2 M d p) g from zX2.same hP.c2 (fun q h1 h2 => hs q (by omega))),
    (show zX3 cI cP cS cZ cM o (zw_look2 M d p) g from zX3.same hP.c3 (fun q h1 h2 => hs q (by omega))),
    (show zX4 cI cP cS cZ cM o (zw_look2 M d p) g from zX4.same hP.c4 (fun q h1 h2 => hs q (by omega))),
    (show zX5 cI cP cS cZ cM o (zw_look2 M d p) g from zX5.same hP.c5 (fun q h1 h2 => hs q (by omega))),
    (show zX6 cI cP cS cZ cM o (zw_look2 M d p) g from zX6.same hP.c6 (fun q h1 h2 => hs q (by omega))),
    (show zX7 cI cP cS cZ cM o (zw_look2 M d p) g from by
    obtain ⟨a1, a2, a3, a4⟩ := hP.c7
    refine ⟨?_, ?_, ?_, ?_⟩
    · rw [hg]; exact (va_up_ne _ _ (by omega)).trans (va_up_self _ _ _)
    · exact (hs _ (by omega)).trans a2
    · rw [hg]; exact va_up_self _ _ _
    · exact (hs _ (by omega)).trans a4),
    (show zX8 cI cP cS cZ cM o (zw_look2 M d p) g from zX8.same hP.c8 (fun q h1 h2 => hs q (by omega))),
    (show zX9 cI cP cS cZ cM o (zw_look2 M d p) g from zX9.same hP.c9 (fun q h1 h2 => hs q (by omega))),
    (show zX10 cI cP cS cZ cM o (zw_look2 M d p) g from zX10.same hP.c10 (fun q h1 h2 => hs q (by omega))),
    (show zX11 cI cP cS cZ cM o (zw_look2 M d p) g from zX11.same hP.c11 (fun q h1 h2 => hs q (by omega))),
    (show zX12 cI cP cS cZ cM o (zw_look2 M d p) g from zX12.same hP.c12 (fun q h1 h2 => hs q (by omega)))⟩
noncomputable def zw_often (M : zCt) (lw : Nat → Int) : zCt := (zset M.1 21 lw, M.2)
theorem zr_often {cI cP cS cZ cM : ClassId} {o : Nat} {M : zCt} {f g : Nat → va_E} {lw : Nat → Int} (hP : zCP cI cP cS cZ cM o M f) (hg : g = va_up f (o + 607 + 3) (zA cI 5 lw)) : zCP cI cP cS cZ cM o (zw_often M lw) g := by
  have hs : ∀ q, q ≠ o + 610 → g q = f q := fun q hq => by rw [hg]; exact va_up_ne _ _ (by omega)
  exact ⟨(show zX0 cI cP cS cZ cM o (zw_often M lw) g from zX0.same hP.c0 (fun q h1 h2 => hs q (by omega))),
    (show zX1 cI cP cS cZ cM o (zw_often M lw) g from zX1.same hP.c1 (fun q h1 h2 => hs q (by omega))),
    (show zX2 cI cP cS cZ cM o (zw_often M lw) g from zX2.same hP.c2 (fun q h1 h2 => hs q (by omega))),
    (show zX3 cI cP cS cZ cM o (zw_often M lw) g from zX3.same hP.c3 (fun q h1 h2 => hs q (by omega))),
    (show zX4 cI cP cS cZ cM o (zw_often M lw) g from zX4.same hP.c4 (fun q h1 h2 => hs q (by omega))),
    (show zX5 cI cP cS cZ cM o (zw_often M lw) g from zX5.same hP.c5 (fun q h1 h2 => hs q (by omega))),
    (show zX6 cI cP cS cZ cM o (zw_often M lw) g from by
    obtain ⟨a1, a2, a3, a4⟩ := hP.c6
    refine ⟨(hs _ (by omega)).trans a1, (hs _ (by omega)).trans a2, (hs _ (by omega)).trans a3, ?_⟩
    rw [hg]; exact va_up_self _ _ _),
    (show zX7 cI cP cS cZ cM o (zw_often M lw) g from zX7.same hP.c7 (fun q h1 h2 => hs q (by omega))),
    (show zX8 cI cP cS cZ cM o (zw_often M lw) g from zX8.same hP.c8 (fun q h1 h2 => hs q (by omega))),
    (show zX9 cI cP cS cZ cM o (zw_often M lw) g from zX9.same hP.c9 (fun q h1 h2 => hs q (by omega))),
    (show zX10 cI cP cS cZ cM o (zw_often M lw) g from zX10.same hP.c10 (fun q h1 h2 => hs q (by omega))),
    (show zX11 cI cP cS cZ cM o (zw_often M lw) g from zX11.same hP.c11 (fun q h1 h2 => hs q (by omega))),
    (show zX12 cI cP cS cZ cM o (zw_often M lw) g from zX12.same hP.c12 (fun q h1 h2 => hs q (by omega)))⟩
noncomputable def zw_common (M : zCt) (d e : Nat → Int) (p : Int) : zCt := (zset M.1 24 (zcmP d e p), M.2)
theorem zr_common {cI cP cS cZ cM : ClassId} {o : Nat} {M : zCt} {f g : Nat → va_E} {d e : Nat → Int} {p : Int} {R : Nat → Nat → Int} {ln : Nat → Int} (hP : zCP cI cP cS cZ cM o M f) (hs0 : zFrS f g (o + 1) (o + 615)) (hx : ∃ (R2 : Nat → Nat → Int) (K2 c2 r2 l2 : Nat → Int), zSpace cI cZ cM g (o + 1) 60 45 p R2 K2 ∧ zSh cI g (o + 615) (o + 1) (zcom d e p R ln) c2 r2 l2 ∧ (∀ i, zcan 31 (R2 i))) : zCP cI cP cS cZ cM o (zw_common M d e p) g := by
  obtain ⟨R2, K2, c2, r2, l2, x1, x2, x3⟩ := hx
  have hs : ∀ q, ¬ (o + 1 ≤ q ∧ q < o + 98) ∧ ¬ (o + 615 ≤ q ∧ q < o + 623) → g q = f q := fun q hq => hs0 q (by omega)
  exact ⟨(show zX0 cI cP cS cZ cM o (zw_common M d e p) g from zX0.same hP.c0 (fun q h1 h2 => hs q (by omega))),
    (show zX1 cI cP cS cZ cM o (zw_common M d e p) g from ⟨60, 45, p, R2, K2, x1, x3⟩),
    (show zX2 cI cP cS cZ cM o (zw_common M d e p) g from zX2.same hP.c2 (fun q h1 h2 => hs q (by omega))),
    (show zX3 cI cP cS cZ cM o (zw_common M d e p) g from zX3.same hP.c3 (fun q h1 h2 => hs q (by omega))),
    (show zX4 cI cP cS cZ cM o (zw_common M d e p) g from zX4.same hP.c4 (fun q h1 h2 => hs q (by omega))),
    (show zX5 cI cP cS cZ cM o (zw_common M d e p) g from zX5.same hP.c5 (fun q h1 h2 => hs q (by omega))),
    (show zX6 cI cP cS cZ cM o (zw_common M d e p) g from zX6.same hP.c6 (fun q h1 h2 => hs q (by omega))),
    (show zX7 cI cP cS cZ cM o (zw_common M d e p) g from zX7.same hP.c7 (fun q h1 h2 => hs q (by omega))),
    (show zX8 cI cP cS cZ cM o (zw_common M d e p) g from ⟨c2, r2, l2, by rw [zcom_ind] at x2; exact x2⟩),
    (show zX9 cI cP cS cZ cM o (zw_common M d e p) g from zX9.same hP.c9 (fun q h1 h2 => hs q (by omega))),
    (show zX10 cI cP cS cZ cM o (zw_common M d e p) g from zX10.same hP.c10 (fun q h1 h2 => hs q (by omega))),
    (show zX11 cI cP cS cZ cM o (zw_common M d e p) g from zX11.same hP.c11 (fun q h1 h2 => hs q (by omega))),
    (show zX12 cI cP cS cZ cM o (zw_common M d e p) g from zX12.same hP.c12 (fun q h1 h2 => hs q (by omega)))⟩
noncomputable def zw_run (M : zCt) (d e : Nat → Int) (p : Int) : zCt := (zset (zset (za (za M.1 0 15 (zrunA p d e (M.1 26)).2.1) 0 16 p) 25 (zrunA p d e (M.1 26)).2.2.2.2.1) 26 (zrunA p d e (M.1 26)).2.2.2.2.2, M.2)
theorem zr_run {cI cP cS cZ cM : ClassId} {o : Nat} {M : zCt} {f g : Nat → va_E} {d e : Nat → Int} {p : Int} (hP : zCP cI cP cS cZ cM o M f) (hs0 : zFr f g (o + 623) (o + 623 + 5)) (hx : ∃ x1 y1, zRd cI g (o + 623) x1 y1 (zrunA p d e (M.1 26)).2.1 p (zrunA p d e (M.1 26)).2.2.2.2.1 (zrunA p d e (M.1 26)).2.2.2.2.2 (zrunA p d e (M.1 26)).2.2.1 (zrunA p d e (M.1 26)).2.2.2.1 ∧ zcan 31 (zrunA p d e (M.1 26)).2.2.1 ∧ zcan 31 (zrunA p d e (M.1 26)).2.2.2.1) : zCP cI cP cS cZ cM o (zw_run M d e p) g := by
  obtain ⟨x1, y1, hx, hx2⟩ := hx
  have hs : ∀ q, ¬ (o + 623 ≤ q ∧ q < o + 628) → g q = f q := fun q hq => hs0 q (by omega)
  exact ⟨(show zX0 cI cP cS cZ cM o (zw_run M d e p) g from zX0.same hP.c0 (fun q h1 h2 => hs q (by omega))),
    (show zX1 cI cP cS cZ cM o (zw_run M d e p) g from zX1.same hP.c1 (fun q h1 h2 => hs q (by omega))),
    (show zX2 cI cP cS cZ cM o (zw_run M d e p) g from zX2.same hP.c2 (fun q h1 h2 => hs q (by omega))),
    (show zX3 cI cP cS cZ cM o (zw_run M d e p) g from zX3.same hP.c3 (fun q h1 h2 => hs q (by omega))),
    (show zX4 cI cP cS cZ cM o (zw_run M d e p) g from zX4.same hP.c4 (fun q h1 h2 => hs q (by omega))),
    (show zX5 cI cP cS cZ cM o (zw_run M d e p) g from zX5.same hP.c5 (fun q h1 h2 => hs q (by omega))),
    (show zX6 cI cP cS cZ cM o (zw_run M d e p) g from zX6.same hP.c6 (fun q h1 h2 => hs q (by omega))),
    (show zX7 cI cP cS cZ cM o (zw_run M d e p) g from zX7.same hP.c7 (fun q h1 h2 => hs q (by omega))),
    (show zX8 cI cP cS cZ cM o (zw_run M d e p) g from zX8.same hP.c8 (fun q h1 h2 => hs q (by omega))),
    (show zX9 cI cP cS cZ cM o (zw_run M d e p) g from ⟨x1, y1, _, _, hx, hx2⟩),
    (show zX10 cI cP cS cZ cM o (zw_run M d e p) g from zX10.same hP.c10 (fun q h1 h2 => hs q (by omega))),
    (show zX11 cI cP cS cZ cM o (zw_run M d e p) g from zX11.same hP.c11 (fun q h1 h2 => hs q (by omega))),
    (show zX12 cI cP cS cZ cM o (zw_run M d e p) g from zX12.same hP.c12 (fun q h1 h2 => hs q (by omega)))⟩
theorem zr_ring {cI cP cS cZ cM : ClassId} {o : Nat} {M : zCt} {f g : Nat → va_E} {v : Nat} (hP : zCP cI cP cS cZ cM o M f) (hs0 : zFrR f g (o + 1) (o + 628)) (hx : zRgA cI cZ cM g (o + 628) (o + 1) v) : zCP cI cP cS cZ cM o M g := by
  obtain ⟨p, top, lc, lx, ly, wd, row, col, ln, w, lim, p0, R, K, x1, x2, x3, x4⟩ := hx
  have hs : ∀ q, ¬ (o + 1 ≤ q ∧ q < o + 98) ∧ ¬ (o + 628 ≤ q ∧ q < o + 634) → g q = f q := fun q hq => hs0 q (by omega)
  exact ⟨(show zX0 cI cP cS cZ cM o M g from zX0.same hP.c0 (fun q h1 h2 => hs q (by omega))),
    (show zX1 cI cP cS cZ cM o M g from ⟨_, _, _, _, _, x3, x4⟩),
    (show zX2 cI cP cS cZ cM o M g from zX2.same hP.c2 (fun q h1 h2 => hs q (by omega))),
    (show zX3 cI cP cS cZ cM o M g from zX3.same hP.c3 (fun q h1 h2 => hs q (by omega))),
    (show zX4 cI cP cS cZ cM o M g from zX4.same hP.c4 (fun q h1 h2 => hs q (by omega))),
    (show zX5 cI cP cS cZ cM o M g from zX5.same hP.c5 (fun q h1 h2 => hs q (by omega))),
    (show zX6 cI cP cS cZ cM o M g from zX6.same hP.c6 (fun q h1 h2 => hs q (by omega))),
    (show zX7 cI cP cS cZ cM o M g from zX7.same hP.c7 (fun q h1 h2 => hs q (by omega))),
    (show zX8 cI cP cS cZ cM o M g from zX8.same hP.c8 (fun q h1 h2 => hs q (by omega))),
    (show zX9 cI cP cS cZ cM o M g from zX9.same hP.c9 (fun q h1 h2 => hs q (by omega))),
    (show zX10 cI cP cS cZ cM o M g from ⟨v, _, _, _, _, _, _, _, _, _, x1, x2⟩),
    (show zX11 cI cP cS cZ cM o M g from zX11.same hP.c11 (fun q h1 h2 => hs q (by omega))),
    (show zX12 cI cP cS cZ cM o M g from zX12.same hP.c12 (fun q h1 h2 => hs q (by omega)))⟩
end ZCp
