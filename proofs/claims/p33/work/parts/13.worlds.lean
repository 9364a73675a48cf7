/-! THE WORLDS: the class's cells, the model's cells, the law's -/
abbrev Q4 : Type := Int32 × Int32 × Int32 × Int32
def stC (q : Q4) : mC := .inr (1, [.int q.1, .int q.2.1, .int q.2.2.1, .int q.2.2.2])
def rsF : Nat → Option Nat := fun k => match k with
  | 0 => some 16
  | 1 => some 17
  | 2 => some 18
  | 3 => some 19
  | _ => none
/-- the class: slot in use, current, batch, readers, slots' words, bottom; the pages' arrays; path, taken; what lies behind -/
def cW (sl : Int32) (cu ba r0 r1 r2 r3 : Q4) (sw : Nat → Int64) (bt : Int32) (cnt inn lk wd kp wr mk ls pth tk : Nat → Int32) (tl : List mC) : mW :=
  .inr (3, [.ref 1, .ref 10, .ref 11, .ref 12, .ref 15, .ref 20, .int sl]) ::
  .inr (0, [.ref 2, .ref 3, .ref 4, .ref 5, .ref 6, .ref 7, .ref 8, .ref 9]) ::
  .inl (0, 800, .inl cnt) :: .inl (1, 800, .inl inn) :: .inl (0, 4000, .inl lk) :: .inl (0, 4000, .inl wd) :: .inl (1, 800, .inl kp) :: .inl (1, 800, .inl wr) :: .inl (1, 800, .inl mk) :: .inl (0, 800, .inl ls) ::
  stC cu :: stC ba :: .inr (2, [.ref 1, .ref 11, .ref 13, .ref 14, .int bt]) :: .inl (0, 8, .inl pth) :: .inl (0, 8, .inl tk) ::
  .inl (3, 4, .inr (.inr rsF)) :: stC r0 :: stC r1 :: stC r2 :: stC r3 :: .inl (2, 8, .inr (.inl sw)) :: tl
abbrev C21 : Type := mC × mC × mC × mC × mC × mC × mC × mC × mC × mC × mC × mC × mC × mC × mC × mC × mC × mC × mC × mC × mC
/-- the model's cells -/
def mCl (ep rt bt sl th dp : Int32) (many inn item val wr met rst : Nat → Int32) (wds : Nat → Int64) (opd ope way tk : Nat → Int32) (tl : List mC) : List mC :=
  .inr (4, [.ref 22, .ref 23, .ref 24, .ref 25, .ref 26, .ref 27, .ref 28, .int ep, .int rt, .int bt, .int sl, .ref 29, .ref 30, .ref 31, .int th, .ref 32, .ref 33, .int dp]) ::
  .inl (0, 720, .inl many) :: .inl (1, 720, .inl inn) :: .inl (0, 3600, .inl item) :: .inl (0, 3600, .inl val) :: .inl (1, 720, .inl wr) :: .inl (1, 720, .inl met) :: .inl (0, 720, .inl rst) ::
  .inl (2, 8, .inr (.inl wds)) :: .inl (0, 4, .inl opd) :: .inl (0, 4, .inl ope) :: .inl (0, 12, .inl way) :: .inl (0, 12, .inl tk) :: tl
/-- the model's world: behind the class's 21 cells -/
def dW (c : C21) (ep rt bt sl th dp : Int32) (many inn item val wr met rst : Nat → Int32) (wds : Nat → Int64) (opd ope way tk : Nat → Int32) (tl : List mC) : mW :=
  c.1 :: c.2.1 :: c.2.2.1 :: c.2.2.2.1 :: c.2.2.2.2.1 :: c.2.2.2.2.2.1 :: c.2.2.2.2.2.2.1 :: c.2.2.2.2.2.2.2.1 :: c.2.2.2.2.2.2.2.2.1 :: c.2.2.2.2.2.2.2.2.2.1 :: c.2.2.2.2.2.2.2.2.2.2.1 :: c.2.2.2.2.2.2.2.2.2.2.2.1 :: c.2.2.2.2.2.2.2.2.2.2.2.2.1 :: c.2.2.2.2.2.2.2.2.2.2.2.2.2.1 :: c.2.2.2.2.2.2.2.2.2.2.2.2.2.2.1 :: c.2.2.2.2.2.2.2.2.2.2.2.2.2.2.2.1 :: c.2.2.2.2.2.2.2.2.2.2.2.2.2.2.2.2.1 :: c.2.2.2.2.2.2.2.2.2.2.2.2.2.2.2.2.2.1 :: c.2.2.2.2.2.2.2.2.2.2.2.2.2.2.2.2.2.2.1 :: c.2.2.2.2.2.2.2.2.2.2.2.2.2.2.2.2.2.2.2.1 :: c.2.2.2.2.2.2.2.2.2.2.2.2.2.2.2.2.2.2.2.2 ::
  mCl ep rt bt sl th dp many inn item val wr met rst wds opd ope way tk tl
def cT (sl : Int32) (cu ba r0 r1 r2 r3 : Q4) (sw : Nat → Int64) (bt : Int32) (cnt inn lk wd kp wr mk ls pth tk : Nat → Int32) : C21 :=
  (.inr (3, [.ref 1, .ref 10, .ref 11, .ref 12, .ref 15, .ref 20, .int sl]),
  .inr (0, [.ref 2, .ref 3, .ref 4, .ref 5, .ref 6, .ref 7, .ref 8, .ref 9]),
  .inl (0, 800, .inl cnt), .inl (1, 800, .inl inn), .inl (0, 4000, .inl lk), .inl (0, 4000, .inl wd), .inl (1, 800, .inl kp), .inl (1, 800, .inl wr), .inl (1, 800, .inl mk), .inl (0, 800, .inl ls),
  stC cu, stC ba, .inr (2, [.ref 1, .ref 11, .ref 13, .ref 14, .int bt]), .inl (0, 8, .inl pth), .inl (0, 8, .inl tk),
  .inl (3, 4, .inr (.inr rsF)), stC r0, stC r1, stC r2, stC r3, .inl (2, 8, .inr (.inl sw)))
theorem dW_cW (sl : Int32) (cu ba r0 r1 r2 r3 : Q4) (sw : Nat → Int64) (bt : Int32) (cnt inn lk wd kp wr mk ls pth tk : Nat → Int32) (ep rt bt2 sl2 th dp : Int32) (many inn2 item val wr2 met rst : Nat → Int32) (wds : Nat → Int64) (opd ope way tk2 : Nat → Int32) (tl : List mC) :
    dW (cT sl cu ba r0 r1 r2 r3 sw bt cnt inn lk wd kp wr mk ls pth tk) ep rt bt2 sl2 th dp many inn2 item val wr2 met rst wds opd ope way tk2 tl = cW sl cu ba r0 r1 r2 r3 sw bt cnt inn lk wd kp wr mk ls pth tk (mCl ep rt bt2 sl2 th dp many inn2 item val wr2 met rst wds opd ope way tk2 tl) := rfl
