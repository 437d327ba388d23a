/-! WHAT HOLDS BETWEEN THE CALLS: the class's cells in s, the reference's in t -/
/-- the reference's words, with a blank behind each -/
def wrdL : List Nat := [104, 111, 117, 115, 101, 32, 104, 111, 108, 101, 32, 112, 97, 110, 101, 32, 102, 114, 97, 109, 101, 32, 102, 101, 97, 115, 116, 32, 116, 97, 120, 32, 99, 97, 114, 114, 105, 101, 114, 115, 32, 115, 101, 101, 100, 32, 108, 97, 119, 32, 115, 101, 101, 115, 32, 105, 110, 32, 100, 117, 101, 32, 115, 110, 97, 112, 32, 104, 97, 114, 109, 32, 97, 110, 100, 32, 111, 114, 32, 110, 111, 116, 32, 112, 97, 110, 101, 115, 32, 115, 105, 122, 101, 32, 112, 108, 97, 99, 101, 32, 102, 97, 114, 32, 110, 105, 103, 104, 116, 32]
def Rfau (s t : aS) : Prop := a_gI s 31 0 = a_gI t 96 4 ∧ a_gI s 31 1 = a_gI t 96 5 ∧ ∀ k, k < 110 → a_gI t 98 k = nI (wrdL.getD k 0)
/-- a byte as the class has it -/
def sby (b : Nat) : Int32 := if b < 128 then nI b else nI b - 256
def Rtap (s t : aS) (T : Nat) : Prop := a_gI s 0 10 = nI T ∧ a_gI t 96 1 = nI T ∧ T ≤ 700 ∧ ∀ k, k < T → ∃ b, b < 256 ∧ a_gI t 97 k = nI b ∧ a_gI s 1 k = sby b
def Rhou (s t : aS) (H : Nat) : Prop := a_gI s 3 1 = nI H ∧ a_gI t 96 12 = nI H ∧ H ≤ 5 ∧ ∀ k, k < H → a_gI s 4 k = a_gI t 99 k
def Rhol (s t : aS) (H L : Nat) : Prop := a_gI s 5 1 = nI L ∧ a_gI t 96 13 = nI L ∧ L ≤ 6 ∧ ∀ k, k < L → a_gI s 6 k = a_gI t 100 k ∧ (∃ h, h < H ∧ a_gI s 13 k = nI h ∧ a_gI t 101 k = nI h) ∧ (∃ z, z ≤ 9 ∧ a_gI s 14 k = nI z ∧ a_gI t 102 k = nI z) ∧ a_gI s 15 k = a_gI t 103 k ∧ (a_gI t 103 k = -1 ∨ ∃ g, g < H ∧ a_gI t 103 k = nI g)
def Rpan (s t : aS) (P : Nat) : Prop := a_gI s 7 1 = nI P ∧ a_gI t 96 14 = nI P ∧ P ≤ 4 ∧ ∀ k, k < P → a_gI s 8 k = a_gI t 104 k ∧ ∃ z, z ≤ 9 ∧ a_gI s 16 k = nI z ∧ a_gI t 105 k = nI z
def Rtax (s t : aS) (X : Nat) : Prop := a_gI s 11 1 = nI X ∧ a_gI t 96 17 = nI X ∧ X ≤ 4 ∧ ∀ k, k < X → a_gI s 12 k = a_gI t 112 k
def Rfea (s t : aS) (H E : Nat) : Prop := a_gI s 2 14 = nI E ∧ a_gI t 96 16 = nI E ∧ E ≤ 5 ∧ ∀ k, k < E → (∃ n, n ≤ 60 ∧ a_gI s 18 k = nI n ∧ a_gI t 109 k = nI n) ∧ (∃ h, h < H ∧ a_gI s 19 k = nI h ∧ a_gI t 110 k = nI h) ∧ ∃ w, w ≤ 6 ∧ a_gI s 20 k = nI w ∧ a_gI t 111 k = nI w
def Rcar (s t : aS) (C : Nat) : Prop := a_gI s 2 15 = nI C ∧ a_gI t 96 18 = nI C ∧ C ≤ 9
/-- what a text tells, but for its laws -/
def Rter (s t : aS) (H L P F X E C : Nat) : Prop := Rhou s t H ∧ Rhol s t H L ∧ Rpan s t P ∧ Rfra s t F ∧ Rtax s t X ∧ Rfea s t H E ∧ Rcar s t C
/-! laws: knots with each sign behind its sides; the indexes that the reference holds -/
/-- the reference's number of a sign, by the Token -/
def tkS (i : Nat) : Nat := match i with
  | 26 => 4
  | 27 => 3
  | 29 => 5
  | 30 => 6
  | 31 => 7
  | 32 => 8
  | 33 => 9
  | 34 => 10
  | 35 => 11
  | 36 => 12
  | 37 => 13
  | 38 => 14
  | _ => 0
def kno (s t : aS) (kc nc kt kp ko : Nat) (k off : Nat) (st st2 : List Nat) : Prop :=
  (∃ v, v ≤ 9999 ∧ a_gT s kc k = some 2 ∧ a_gI s nc k = nI v ∧ a_gI t kt (off + k) = nI 0 ∧ a_gI t kp (off + k) = nI v ∧ st2 = k :: st)
  ∨ (∃ j, j < 5 ∧ a_gT s kc k = some (19 + j) ∧ a_gI t kt (off + k) = nI 1 ∧ a_gI t kp (off + k) = nI j ∧ st2 = k :: st)
  ∨ (∃ i r, st = i :: r ∧ a_gT s kc k = some 28 ∧ a_gI t kt (off + k) = nI 2 ∧ a_gI t kp (off + k) = nI i ∧ st2 = k :: r)
  ∨ (∃ j i r w, st = j :: i :: r ∧ w < 39 ∧ 3 ≤ tkS w ∧ a_gT s kc k = some w ∧ a_gI t kt (off + k) = nI (tkS w) ∧ a_gI t kp (off + k) = nI i ∧ a_gI t ko (off + k) = nI j ∧ st2 = k :: r)
/-- from knot k on, n of them, over held ones -/
def kns (s t : aS) (kc nc kt kp ko off : Nat) : Nat → Nat → List Nat → List Nat → Prop
  | _, 0, st, st2 => st2 = st
  | k, n + 1, st, st2 => ∃ st1, kno s t kc nc kt kp ko k off st st1 ∧ kns s t kc nc kt kp ko off (k + 1) n st1 st2
def Rlaw (s t : aS) : Prop := a_gI s 21 6 = a_gI t 96 20 ∧ ∀ w, w < 3 →
  (a_gI t 113 w = 0 ∧ ∃ a b, a ≤ 64 ∧ b ≤ a ∧ a_gI s 24 w = nI a ∧ a_gI s 25 w = nI b)
  ∨ (a_gI t 113 w = 1 ∧ ∃ a n, a + n + 1 ≤ 64 ∧ a_gI s 24 w = nI a ∧ a_gI t 114 w = nI a ∧ a_gI s 25 w = nI (a + n + 1) ∧ a_gI t 115 w = nI (a + n + 1) ∧ kns s t 22 23 116 117 118 0 a (n + 1) [] [a + n])
/-! how things stand -/
/-- where a pane is, as the class has it; the reference has 6 for the store, 7 for a broken one -/
def whr (d : Nat) : Int32 := if d < 6 then nI d else if d = 6 then -1 else -2
def Rsta (s t : aS) (r w pd se xn xm xd hg mp ml ms : Nat) (H E : Nat) (d : Nat → Nat) (N M D B : Nat) : Prop :=
  a_gI s r 4 = nI N ∧ a_gI t 96 xn = nI N ∧ N ≤ 61 ∧ a_gI s r 6 = nI M ∧ a_gI t 96 xm = nI M ∧ a_gI s r 5 = nI D ∧ a_gL t 96 xd = lN D ∧ D < 2 ^ 31 ∧
  (∀ p, p < 4 → d p < 8 ∧ a_gI t hg p = nI (d p) ∧ a_gI s w p = whr (d p)) ∧
  (∀ h, h < 5 → a_gI s pd h = a_gI t mp h) ∧ (∀ h, H ≤ h → h < 5 → a_gI t mp h = 0) ∧
  (∀ h g, h < H → g < H → ∃ m, m < 2 ^ N ∧ a_gL s se (5 * h + g) = lN m ∧ ∀ n, n < N → ∃ b, b < 32 ∧ a_gI t ms (5 * n + h) = nI b ∧ m.testBit n = b.testBit g) ∧
  a_gI s r 3 = nI B ∧ B < 32 ∧ (∀ f, f < E → (a_gI t 109 f < nI N → a_gI t ml f = nI (B.testBit f).toNat) ∧ (¬ a_gI t 109 f < nI N → a_gI t ml f = nI 2 ∧ B.testBit f = false))
def fitT (t : aS) (F p h : Nat) : Bool := fitF (a_gI t 107) (a_gI t 108) F (a_gI t 105 p) (a_gI t 102 h)
def Rval (t : aS) (L P F : Nat) (d : Nat → Nat) : Prop := (∀ p, p < 4 → d p < 8) ∧ (∀ p, P ≤ p → p < 4 → d p = 6) ∧ (∀ p, p < P → d p < 6 → d p < L ∧ fitT t F p (d p) = true) ∧ ∀ p q, p < q → q < P → d p < 6 → d p ≠ d q
def brk (d : Nat → Nat) : Nat := cnt (fun p => decide (d p = 7)) 4
def upF (d : Nat → Nat) (p q : Nat) : Nat → Nat := fun x => if x = p then q else d x
def Rund (s t : aS) (L P F : Nat) : Nat → (Nat → Nat) → Nat → Prop
  | 0, d, M => Rval t L P F d ∧ M ≤ 9
  | U + 1, d, M => Rval t L P F d ∧ M ≤ 9 ∧ U + 1 ≤ M + brk d ∧ ∃ p q f, p < P ∧ q < 8 ∧ f ≤ 1 ∧ f ≤ M ∧ a_gI s 64 U = nI p ∧ a_gI s 65 U = whr q ∧ a_gI s 66 U = nI f ∧ a_gI t 127 (3 * U) = nI p ∧ a_gI t 127 (3 * U + 1) = nI q ∧ a_gI t 127 (3 * U + 2) = nI f ∧ Rund s t L P F U (upF d p q) (M - f)
/-! complaints -/
def Rcm1 (s t : aS) (H k : Nat) : Prop :=
  (a_gI s 92 k = nI 0 ∧ a_gI t 136 k = nI 1 ∧ ∃ h m, h < H ∧ m ≤ 6 ∧ a_gI s 93 k = nI h ∧ a_gI t 137 k = nI h ∧ a_gI s 94 k = nI m ∧ a_gI t 138 k = nI m)
  ∨ (∃ h g, h < H ∧ g < H ∧ a_gI t 136 k = nI 2 ∧ a_gI s 93 k = nI h ∧ a_gI t 137 k = nI h ∧ a_gI s 94 k = nI g ∧ a_gI t 138 k = nI g ∧ ((a_gI s 92 k = nI 1 ∧ a_gI t 139 k = nI 1) ∨ (a_gI s 92 k = nI 2 ∧ a_gI t 139 k = nI 0)))
  ∨ (a_gI s 92 k = nI 3 ∧ a_gI t 136 k = nI 0 ∧ ∃ j, j < k ∧ a_gI s 93 k = nI j ∧ a_gI t 138 k = nI j)
def Rcom (s t : aS) (H K : Nat) : Prop := a_gI s 91 4 = nI K ∧ a_gI t 96 87 = nI K ∧ K ≤ 24 ∧ a_gI s 91 5 = a_gI t 96 88 ∧ (a_gI t 96 88 = -1 ∨ ∃ l, l ≤ K ∧ a_gI t 96 88 = nI l) ∧ ∀ k, k < K → Rcm1 s t H k
