
/-! ===== what the operations answer: definitions ===== -/
def f_count (X : St) (w : Int32) : Int32 := if w = 0 then nI X.1.2.2.length else if w = 1 then pr_b (X.2.1 0).isSome + pr_b (X.2.1 1).isSome else if w = 2 then nI X.2.2.2.1.length else if w = 3 then (match X.2.2.1 0 with
  | none => -4
  | some (_, n, _) => nI n) else if w = 4 then nI (a_to (fun p => (d_pn X.1.1 p).2.2.2.length) (x_n X)) else if w = 5 then nI (a_to X.1.1.1 26) else -1
def rdF (o : Sh1) (as f : Int32) (i : Nat) : Nat := match o with
  | none => 1
  | some (ln, n, _) => if nI ln = as then (if ixb (f + 2 * nI i) n && ixb (f + 2 * nI i + 1) n then 0 else 2) else 3
def rdA (o : Sh1) (f : Int32) (i : Nat) : Int32 := match o with
  | none => 0
  | some (_, _, c) => c (f + 2 * nI i).toNatClampNeg
def rdB (o : Sh1) (f : Int32) (i : Nat) : Int32 := match o with
  | none => 0
  | some (_, _, c) => c (f + 2 * nI i + 1).toNatClampNeg
def rdG (o : Sh1) (f : Int32) (i : Nat) : Bool := pr_in (rdA o f i) 0 25 && pr_in (rdB o f i) 0 40
/-- what stops the reading, how many came, whether it was a pair that is none -/
def rdS (o : Sh1) (as f : Int32) : Nat → Nat → Nat × Nat × Bool
  | 0, i => (0, i, false)
  | d + 1, i => if rdF o as f i = 0 then (if rdG o f i then rdS o as f d (i + 1) else (0, i, true)) else (rdF o as f i, i, false)
def rdL (o : Sh1) (f : Int32) : Nat → St → St
  | 0, X => X
  | k + 1, X => (f_letter (rdL o f k X) (rdA o f k) (rdB o f k)).2
def sTorn (X : St) (t : Nat) : St := (X.1, X.2.1, X.2.2.1, X.2.2.2.1, X.2.2.2.2.1, t)
def f_read (X : St) (k ln f n : Int32) : Int32 × St := if (pr_in k 0 3 && pr_in ln 0 2 && pr_in n 0 20) = true then (if (rdS (X.2.2.1 k.toNatClampNeg) ln f n.toNatClampNeg 0).2.2 then (-20 - nI (rdS (X.2.2.1 k.toNatClampNeg) ln f n.toNatClampNeg 0).2.1, X) else (nI (rdS (X.2.2.1 k.toNatClampNeg) ln f n.toNatClampNeg 0).2.1, sTorn (rdL (X.2.2.1 k.toNatClampNeg) f (rdS (X.2.2.1 k.toNatClampNeg) ln f n.toNatClampNeg 0).2.1 X) (rdS (X.2.2.1 k.toNatClampNeg) ln f n.toNatClampNeg 0).1)) else (-1, X)
/-- what it is worth to be of the sum s -/
def x_at (X : St) (s : Int32) : Int32 := a_wh (fun q => decide (x_K X q ≠ 4) && decide (x_S X q = s)) (x_W X) (x_D X) (x_n X)
def x_ls (X : St) (n : Nat) : Nat := a_sum X.1.1.1 X.1.1.2.2.1 0 (x_ln X n)
def bst (v : Nat → Int32) : Nat → Int32 × Int32
  | 0 => (0, -4)
  | k + 1 => if (bst v k).2 = -4 ∨ (bst v k).1 < v k then (v k, nI k) else bst v k
def f_call (X : St) (w : Int32) : Int32 := if pr_in w 0 1 then (if X.1.2.1.length = 0 then -2 else if w = 0 then (bst (fun n => x_at X (nI (x_ls X n))) X.1.2.1.length).1 else (bst (fun n => x_at X (nI (x_ls X n))) X.1.2.1.length).2) else -1
def wJ (d : Ld) (j k i : Nat) : Int32 := nI (a_sum d.1 d.2.2.1 (d_pn d i).1 ((d_pn d j).2.2.2 ++ (d_pn d k).2.2.2))
def wS (d : Ld) (S : Nat → Int32) (j k : Nat) : Nat → Int32 := va_up (va_up S j (wJ d j k j)) k (wJ d j k k)
def wv (X : St) (j k : Nat) : Int32 := if j = k ∨ x_K X j = 1 ∨ x_K X k = 1 then -4 else if (x_pn X j).2.2.2.length + (x_pn X k).2.2.2.length ≤ 20 then a_wh (al (wS X.1.1 (x_S X) j k) (x_K X) j) (x_W X) (x_D X) (x_n X) else -4
def mtc (n : Nat) (v : Nat → Nat → Int32) : Nat → Int32 × Int32
  | 0 => (-4, -4)
  | k + 1 => if k / 8 < n ∧ k % 8 < n ∧ (mtc n v k).1 < v (k / 8) (k % 8) then (v (k / 8) (k % 8), 10 * nI (k / 8) + nI (k % 8)) else mtc n v k
def f_match (X : St) (w : Int32) : Int32 := if pr_in w 0 1 then (if w = 0 then (mtc (x_n X) (wv X) 64).1 else (mtc (x_n X) (wv X) 64).2) else -1
def xch {α : Type} (n : Nat) (A f : Nat → α) : Nat → α := fun p => if p < n then A p else f (p - n)
/-- a child of the sum would be somebody there is -/
def x_hs (X : St) (s : Int32) : Bool := !nb (fun p => decide (x_K X p ≠ 4) && decide (x_S X p = s)) (x_n X)
def x_hl (X : St) (i : Nat) : Bool := x_hs X (nI (x_ls X i))
/-- how many persons there are with these children -/
def x_pc (X : St) (f : Nat → Int32) (m : Nat) : Int32 := nI (cnt (fun p => nb (al (xch (x_n X) (x_S X) f) (xch (x_n X) (x_K X) (fun _ => 0)) p) p) (x_n X + m))
def i_min (x y : Int32) : Int32 := if y < x then y else x
def f_crowd (X : St) (n w : Int32) : Int32 := if (pr_in n 0 3 && pr_in w 0 1) = true then (if ¬ n = 0 ∧ X.1.2.1.length = 0 then -2 else if n = 0 then f_persons X else if w = 0 then (if nb (x_hl X) X.1.2.1.length then f_persons X + 1 else f_persons X) else i_min (f_persons X + n) (x_pc X (fun i => nI (x_ls X i)) X.1.2.1.length)) else -1
def yv (s : Int32) : Nat := s.toUInt32.toNat / 65536 % 32768
def yd (s : Int32) : Nat → Int32
  | 0 => s
  | k + 1 => yd s k * Int32.ofNat 1103515245 + 12345
/-- the child of the year's place i -/
def yx (X : St) (s : Int32) (i : Nat) : Nat := yv (yd s (i + 1)) % X.1.2.1.length
def yS (X : St) (s : Int32) : Nat → Int32 := xch (x_n X) (x_S X) (fun i => nI (x_ls X (yx X s i)))
def yK (X : St) : Nat → Nat := xch (x_n X) (x_K X) (fun _ => 0)
def f_year (X : St) (s n w : Int32) : Int32 := if (pr_in n 1 20 && pr_in w 0 1) = true then (if X.1.2.1.length = 0 then -2 else if w = 0 then nI (cnt (fun p => nb (al (yS X s) (yK X) p) p) (x_n X + n.toNatClampNeg)) else nI (cnt (fun p => decide (mk (al (yS X s) (yK X) p) (x_n X + n.toNatClampNeg) = bt1 p)) (x_n X + n.toNatClampNeg))) else -1
def ptX (X : St) (l v : Nat) : St := wLd X (va_up X.1.1.1 l v, X.1.1.2)
def ptn (X : St) (l v : Nat) : Nat := cnt (fun p => nb (al (x_S (ptX X l v)) (x_K X) p) p) (x_n X)
def ptc (X : St) : Nat → Nat × Int32
  | 0 => (cnt (fun p => nb (al (x_S X) (x_K X) p) p) (x_n X), -4)
  | k + 1 => if (ptc X k).1 < ptn X (k / 41) (k % 41) then (ptn X (k / 41) (k % 41), 100 * nI (k / 41) + nI (k % 41)) else ptc X k
def f_part (X : St) (w : Int32) : Int32 := if pr_in w 0 1 then (if (ptc X 1066).2 = -4 ∨ w = 0 then (ptc X 1066).2 else nI (ptc X 1066).1) else -1
abbrev Sv : Type := Nat × Nat × Nat × Bool × Bool
def svt (s : Sv) (x y : Nat) : Sv := if s.1 = 0 then (1, x, y, s.2.2.2.1, s.2.2.2.2) else (s.1 + 1, s.2.1, s.2.2.1, s.2.2.2.1 && decide (x = s.2.1), s.2.2.2.2 && decide (y = s.2.2.1))
def kn (X : St) (t : Nat) : Nat × Nat := X.1.2.2.getD t (0, 0)
/-- the state with two worths -/
def svX (X : St) (a b x y : Nat) : St := wLd X (va_up (va_up X.1.1.1 a x) b y, X.1.1.2)
def svO (X : St) (a b x y t : Nat) : Bool := decide (nI (x_ls (svX X a b x y) (kn X t).1) = nI (kn X t).2)
def svF (X : St) (a b x y : Nat) : Bool := nb (fun t => !svO X a b x y t) X.1.2.2.length
def svc (X : St) (a b : Nat) : Nat → Sv
  | 0 => (0, 0, 0, true, true)
  | k + 1 => if svF X a b (k / 41) (k % 41) then svt (svc X a b k) (k / 41) (k % 41) else svc X a b k
def f_solve (X : St) (a b w : Int32) : Int32 := if (pr_in a 0 25 && pr_in b 0 25 && decide (¬ a = b) && pr_in w 0 3) = true then (if w = 0 then nI (svc X a.toNatClampNeg b.toNatClampNeg 1681).1 else if (svc X a.toNatClampNeg b.toNatClampNeg 1681).1 = 0 then -4 else if w = 1 then 100 * nI (svc X a.toNatClampNeg b.toNatClampNeg 1681).2.1 + nI (svc X a.toNatClampNeg b.toNatClampNeg 1681).2.2.1 else if w = 2 then (if (svc X a.toNatClampNeg b.toNatClampNeg 1681).2.2.2.1 then nI (svc X a.toNatClampNeg b.toNatClampNeg 1681).2.1 else -4) else (if (svc X a.toNatClampNeg b.toNatClampNeg 1681).2.2.2.2 then nI (svc X a.toNatClampNeg b.toNatClampNeg 1681).2.2.1 else -4)) else -1
def rC (w : List Nat) (i : Nat) : Nat := (if 25 - w.getD i 0 < 3 then 25 - w.getD i 0 else 3) + 1
def rS (d : Ld) (kind : Nat) (w : List Nat) (i r : Nat) : Nat := a_w d.2.2.1 kind (w.getD i 0 + r) i * d.1 (w.getD i 0 + r)
abbrev x_nm (X : St) (p : Nat) : List Nat := (d_pn X.1.1 p).2.2.2
def x_c (X : St) (p : Nat) : Nat → Nat := rC (x_nm X p)
def x_sh (X : St) (p : Nat) : Nat → Nat → Nat := rS X.1.1 (d_pn X.1.1 p).1 (x_nm X p)
/-- the fewest raises to the sum s; the raise at place j -/
def x_dl (X : St) (p s : Nat) : Nat := dL (x_c X p) (x_sh X p) (x_nm X p).length 0 s
def x_gr (X : St) (p s j : Nat) : Nat := gR (x_c X p) (x_sh X p) (x_nm X p).length s j
def f_change (X : St) (p s w : Int32) : Int32 := if (ixb p (x_n X) && pr_in s 0 9999) = true then (if ¬ w = 0 ∧ ixb (w - 10) (x_nm X p.toNatClampNeg).length = false then -1 else if x_dl X p.toNatClampNeg s.toNatClampNeg < 100000 then (if w = 0 then nI (X.1.1.2.2.2 * x_dl X p.toNatClampNeg s.toNatClampNeg) else nI ((x_nm X p.toNatClampNeg).getD (w - 10).toNatClampNeg 0 + x_gr X p.toNatClampNeg s.toNatClampNeg (w - 10).toNatClampNeg)) else -4) else -1
/-- what p is worth having at the sum s, less the fee -/
def x_rv (X : St) (p s : Nat) : Int32 := a_wh (al (va_up (x_S X) p (nI s)) (x_K X) p) (x_W X) (x_D X) (x_n X) - nI (X.1.1.2.2.2 * x_dl X p s)
def ccc (X : St) (p : Nat) : Nat → Option (Int32 × Nat)
  | 0 => none
  | s + 1 => if x_dl X p s < 100000 then (match ccc X p s with
    | none => some (x_rv X p s, s)
    | some (b, w) => if b < x_rv X p s then some (x_rv X p s, s) else some (b, w)) else ccc X p s
def c3b : Option (Int32 × Nat) → Int32
  | none => 0
  | some (b, _) => b
def c3s : Option (Int32 × Nat) → Int32
  | none => -4
  | some (_, w) => nI w
def c3f (X : St) (p : Nat) : Option (Int32 × Nat) → Int32
  | none => 0
  | some (_, w) => nI (X.1.1.2.2.2 * x_dl X p w)
def f_rid (X : St) (p w : Int32) : Int32 := if (ixb p (x_n X) && pr_in w 0 2) = true then (if w = 0 then c3b (ccc X p.toNatClampNeg 8401) else if w = 1 then c3s (ccc X p.toNatClampNeg 8401) else c3f X p.toNatClampNeg (ccc X p.toNatClampNeg 8401)) else -1
