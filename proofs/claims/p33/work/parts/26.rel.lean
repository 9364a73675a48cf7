/-! the batch's changes as relations -/
/-- down from the written page p, in a tree of depth d, to the leaf of a key: the way (page, entry), the leaf -/
def dnR (K : Nat → Prop) (r : Nat) (key : Int32) : Nat → (Nat → Nd) → (Nat → Prop) → Nat → (Nat → Nd) → (Nat → Prop) → List (Nat × Nat) → Nat → Prop
  | 0, T, W, p, T', W', P, lf => T' = T ∧ W' = W ∧ P = [] ∧ lf = p ∧ W p ∧ ∃ l, T p = .inl l ∧ l.length ≤ 4
  | d + 1, T, W, p, T', W', P, lf => W p ∧ ∃ l c c' T1 W1 P', T p = .inr l ∧ 0 < l.length ∧ l.length ≤ 4 ∧ (∀ x ∈ l, fl T (fun q => K q ∨ W q) d x) ∧ l[eix T d l key]? = some c ∧ wnR K T W r c c' T1 W1 ∧ P = (p, eix T d l key) :: P' ∧ dnR K r key d (upT T1 p (.inr (l.set (eix T d l key) c'))) W1 c' T' W' P' lf
/-- up: the pages of the way that have 5 entries are split; the way from the leaf's page on -/
def upR (K : Nat → Prop) (r : Nat) : List (Nat × Nat) → Nat → (Nat → Nd) → (Nat → Prop) → (Nat → Nd) → (Nat → Prop) → Nat → Prop
  | [], cur, T, W, T', W', r' => W cur ∧ ((nlen (T cur) ≤ 4 ∧ T' = T ∧ W' = W ∧ r' = r) ∨ (nlen (T cur) = 5 ∧ cur = r ∧ kyOk T (fun q => K q ∨ W q) cur 3 ∧ kyOk T (fun q => K q ∨ W q) cur 4 ∧ ∃ n m, frR K W T [r] n ∧ frR K (addS W n) (upT (upT T n (nDrop (T cur) 3)) cur (nTake (T cur) 3)) [r, n] m ∧ T' = upT (upT (upT T n (nDrop (T cur) 3)) cur (nTake (T cur) 3)) m (.inr [cur, n]) ∧ W' = addS (addS W n) m ∧ r' = m))
  | (q, e) :: rp, cur, T, W, T', W', r' => W cur ∧ ((nlen (T cur) ≤ 4 ∧ T' = T ∧ W' = W ∧ r' = r) ∨ (nlen (T cur) = 5 ∧ kyOk T (fun q => K q ∨ W q) cur 3 ∧ kyOk T (fun q => K q ∨ W q) cur 4 ∧ ∃ n l, frR K W T [r] n ∧ T q = .inr l ∧ q ≠ cur ∧ W q ∧ l.length ≤ 4 ∧ e < l.length ∧ upR K r rp q (upT (upT (upT T n (nDrop (T cur) 3)) cur (nTake (T cur) 3)) q (.inr (l.take (e + 1) ++ n :: l.drop (e + 1)))) (addS W n) T' W' r'))
/-- the page of entry e of q, which has 1 entry, is mended -/
def mdR (K : Nat → Prop) (r : Nat) (T : Nat → Nd) (W : Nat → Prop) (q e : Nat) (T' : Nat → Nd) (W' : Nat → Prop) : Prop :=
  ∃ l cur b, T q = .inr l ∧ W q ∧ l.length ≤ 4 ∧ l[e]? = some cur ∧ W cur ∧ nlen (T cur) = 1 ∧ l[if 0 < e then e - 1 else e + 1]? = some b ∧ (K b ∨ W b) ∧ (nLf (T b) ↔ nLf (T cur)) ∧ b ≠ cur ∧ q ≠ b ∧ q ≠ cur ∧ 2 ≤ nlen (T b) ∧ nlen (T b) ≤ 4 ∧
  ((2 < nlen (T b) ∧ ∃ b' T1, wnR K T W r b b' T1 W' ∧ kyOk (upT T1 q (.inr (l.set (if 0 < e then e - 1 else e + 1) b'))) (fun q => K q ∨ W' q) b' (if 0 < e then nlen (T b) - 1 else 0) ∧
      T' = upT (upT (upT T1 q (.inr (l.set (if 0 < e then e - 1 else e + 1) b'))) cur (nGet (T cur) (T b) (if 0 < e then 0 else 1) (if 0 < e then nlen (T b) - 1 else 0))) b' (nRem (T b) (if 0 < e then nlen (T b) - 1 else 0))) ∨
   (nlen (T b) = 2 ∧ ∃ f g f' T1 W1, l[if 0 < e then e - 1 else e]? = some f ∧ l[(if 0 < e then e - 1 else e) + 1]? = some g ∧ wnR K T W r f f' T1 W1 ∧ f' ≠ g ∧ q ≠ f' ∧ q ≠ g ∧ (K g ∨ W g) ∧ W' = rmS W1 g ∧
      T' = upT (upT (upT T1 q (.inr (l.set (if 0 < e then e - 1 else e) f'))) f' (nApp (T f) (T g))) q (nRem (.inr (l.set (if 0 < e then e - 1 else e) f')) ((if 0 < e then e - 1 else e) + 1))))
/-- up: mended where wanted -/
def dlR (K : Nat → Prop) (r : Nat) : List (Nat × Nat) → Nat → (Nat → Nd) → (Nat → Prop) → (Nat → Nd) → (Nat → Prop) → Prop
  | [], _, T, W, T', W' => T' = T ∧ W' = W
  | (q, e) :: rp, cur, T, W, T', W' => W cur ∧ ((nlen (T cur) < 2 ∧ (∃ l, T q = .inr l ∧ l[e]? = some cur) ∧ ∃ T1 W1, mdR K r T W q e T1 W1 ∧ dlR K r rp q T1 W1 T' W') ∨ (2 ≤ nlen (T cur) ∧ dlR K r rp q T W T' W'))
/-- a root with one page below leaves the tree -/
def shR (K : Nat → Prop) (T : Nat → Nd) (W : Nat → Prop) (r : Nat) (W' : Nat → Prop) (r' : Nat) : Prop :=
  W r ∧ ((∃ c, T r = .inr [c] ∧ W' = rmS W r ∧ r' = c) ∨ ((∀ c, T r ≠ .inr [c]) ∧ W' = W ∧ r' = r))
/-- the way from p, in a tree of depth d, to a key's leaf -/
def fdR (T : Nat → Nd) (U : Nat → Prop) (key : Int32) : Nat → Nat → List (Nat × Nat) → Nat → Prop
  | 0, p, P, lf => P = [] ∧ lf = p ∧ U p ∧ ∃ l, T p = .inl l
  | d + 1, p, P, lf => U p ∧ ∃ l e c P', T p = .inr l ∧ (∀ x ∈ l, fl T U d x) ∧ l[e]? = some c ∧ (∀ (j x : Nat), e < j → l[j]? = some x → key < nI (mkT T d x)) ∧ (e = 0 ∨ nI (mkT T d c) ≤ key) ∧ P = (p, e) :: P' ∧ fdR T U key d c P' lf
/-- put: nw says whether the key is new -/
def putR (K : Nat → Prop) (T : Nat → Nd) (W : Nat → Prop) (r : Nat) (k : Nat) (v : Int32) (T' : Nat → Nd) (W' : Nat → Prop) (r' : Nat) (nw : Bool) : Prop :=
  ∃ d r1 T1 W1 T2 W2 P lf l, d ≤ 6 ∧ k < 100 ∧ wnR K T W r r r1 T1 W1 ∧ dnR K r1 (nI k) d T1 W1 r1 T2 W2 P lf ∧ T2 lf = .inl l ∧ (∃ P0 lf0, fdR T (fun q => K q ∨ W q) (nI k) d r P0 lf0 ∧ P0.map (fun x => x.2) = P.map (fun x => x.2) ∧ T lf0 = .inl l) ∧ 
    ((nw = false ∧ ∃ x, l[plc l (nI k)]? = some x ∧ x.1 = k ∧ T' = upT T2 lf (.inl (l.set (plc l (nI k)) (x.1, v))) ∧ W' = W2 ∧ r' = r1) ∨
     (nw = true ∧ ¬ hld l (plc l (nI k)) (nI k) ∧ upR K r1 P.reverse lf (upT T2 lf (.inl (l.take (plc l (nI k)) ++ (k, v) :: l.drop (plc l (nI k))))) W2 T' W' r'))
/-- delete a key that is there, with its value v -/
def delR (K : Nat → Prop) (T : Nat → Nd) (W : Nat → Prop) (r : Nat) (k : Nat) (v : Int32) (T' : Nat → Nd) (W' : Nat → Prop) (r' : Nat) : Prop :=
  ∃ d r1 T1 W1 T2 W2 W3 P lf l, d ≤ 6 ∧ k < 100 ∧ wnR K T W r r r1 T1 W1 ∧ dnR K r1 (nI k) d T1 W1 r1 T2 W2 P lf ∧ T2 lf = .inl l ∧ (∃ P0 lf0, fdR T (fun q => K q ∨ W q) (nI k) d r P0 lf0 ∧ P0.map (fun x => x.2) = P.map (fun x => x.2) ∧ T lf0 = .inl l) ∧ l[plc l (nI k)]? = some (k, v) ∧
    dlR K r1 P.reverse lf (upT T2 lf (nRem (.inl l) (plc l (nI k)))) W2 T' W3 ∧ shR K T' W3 r1 W' r'
