-- uses: 501.auto
/-! words and poems -/
def VW (c : Int32) : Bool := decide (c = 0) || decide (c = 4) || decide (c = 8) || decide (c = 14) || decide (c = 20)
/-- a run of vowels begins at i -/
def RN (f : Nat → Int32) (i : Nat) : Bool := VW (f i) && (decide (i = 0) || !VW (f (i - 1)))
/-- runs that begin ahead of n -/
def RT (f : Nat → Int32) : Nat → Nat
  | 0 => 0
  | n + 1 => RT f n + (if RN f n then 1 else 0)
/-- the last letter is an e that is no run of its own -/
def ME (f : Nat → Int32) (n : Nat) : Bool := decide (f (n - 1) = 4) && RN f (n - 1) && decide (1 < RT f n)
def SY (f : Nat → Int32) (n : Nat) : Nat := if ME f n then RT f n - 1 else RT f n
def SN (f : Nat → Int32) (n : Nat) : Nat := if ME f n then n - 1 else n
/-- a spelling that is told rightly -/
def SPOK (ln sy sn : Nat → Int32) (lt st : Nat → Nat → Int32) (q n : Nat) : Prop := n ≤ 8 ∧ ln q = nI n ∧ sy q = nI (SY (lt q) n) ∧ sn q = nI (SN (lt q) n) ∧ ∀ p, p < n → RN (lt q) p = true → st q (RT (lt q) p) = nI p
def POOL (L : List Nat) (ln sy sn : Nat → Int32) (lt st : Nat → Nat → Int32) : Prop := ∀ q ∈ L, ∃ n, SPOK ln sy sn lt st q n
/-- foot, feet, how many words in each line, words: kind and spelling -/
abbrev AP : Type := Nat × Nat × List Nat × List (Nat × Nat)
def aKd (A : AP) (w : Nat) : Nat := (A.2.2.2.getD w (0, 0)).1
def aQ (A : AP) (w : Nat) : Nat := (A.2.2.2.getD w (0, 0)).2
def aSz (A : AP) (l : Nat) : Nat := A.2.2.1.getD l 0
def aW (A : AP) : Nat := A.2.2.2.length
def aL (A : AP) : Nat := A.2.2.1.length
def AOK (L : List Nat) (ln : Nat → Int32) (lt : Nat → Nat → Int32) (A : AP) : Prop :=
  A.1 ≤ 3 ∧ A.2.1 ≤ 5 ∧ (0 < aL A → 1 ≤ A.2.1) ∧ aL A ≤ 4 ∧ (∀ l, l < aL A → 1 ≤ aSz A l ∧ aSz A l ≤ 5) ∧ aW A = A.2.2.1.sum ∧
  ∀ w, w < aW A → (1 ≤ aKd A w ∧ aKd A w ≤ 5) ∧ aQ A w ∈ L ∧ ∃ n, 1 ≤ n ∧ n ≤ 8 ∧ ln (aQ A w) = nI n ∧ 1 ≤ RT (lt (aQ A w)) n
/-- the class's poem -/
def PC (L : List Nat) (A : AP) (foot feet lines words : Int32) (sizes kinds : Nat → Int32) (spelled : Nat → Nat) : Prop :=
  foot = nI A.1 ∧ feet = nI A.2.1 ∧ lines = nI (aL A) ∧ words = nI (aW A) ∧ (∀ l, l < aL A → sizes l = nI (aSz A l)) ∧
  (∀ w, w < aW A → kinds w = nI (aKd A w) ∧ spelled w = aQ A w) ∧ ∀ j, j < 20 → spelled j ∈ L
/-- the reference's poem -/
def PR (ln : Nat → Int32) (lt : Nat → Nat → Int32) (A : AP) (row : Nat → Int32) : Prop :=
  row 0 = nI (aL A) ∧ row 1 = nI A.1 ∧ row 2 = nI A.2.1 ∧ (∀ l, l < 4 → row (3 + l) = nI (aSz A l)) ∧
  ∀ w, w < aW A → row (7 + 10 * w) = nI (aKd A w) ∧ row (8 + 10 * w) = ln (aQ A w) ∧ ∀ i, i < 8 → nI i < ln (aQ A w) → row (9 + 10 * w + i) = lt (aQ A w) i
/-- an act undone -/
def undoA (s a b k q : Nat) (A : AP) : AP :=
  if s = 0 then (A.1, A.2.1, A.2.2.1, A.2.2.2.set a (b, aQ A a))
  else if s = 1 then (A.1, A.2.1, A.2.2.1.set b (aSz A b - 1), A.2.2.2.eraseIdx a)
  else if s = 2 then (A.1, A.2.1, A.2.2.1.set b (aSz A b + 1), A.2.2.2.insertIdx a (k, q))
  else if s = 3 then (A.1, A.2.1, A.2.2.1, (A.2.2.2.set a (aKd A b, aQ A b)).set b (aKd A a, aQ A a))
  else (a, b, A.2.2.1, A.2.2.2)
def goodA (s a b k q : Nat) (A : AP) : Prop :=
  (s = 0 ∧ a < aW A ∧ b < 6) ∨ (s = 1 ∧ a < aW A ∧ b < aL A) ∨ (s = 2 ∧ a ≤ aW A ∧ b < aL A ∧ aW A < 20) ∨ (s = 3 ∧ a < aW A ∧ b < aW A) ∨ (s = 4 ∧ a < 4 ∧ b < 6)
/-- what can be undone: the poems that come, the latest first -/
def AR (L : List Nat) (ln : Nat → Int32) (lt : Nat → Nat → Int32) (so fi se tk : Nat → Int32) (ts : Nat → Nat) : List AP → AP → Nat → Prop
  | [], _, _ => True
  | B :: hs, A, p => (∃ s a b k q, so ((p + 23) % 24) = nI s ∧ fi ((p + 23) % 24) = nI a ∧ se ((p + 23) % 24) = nI b ∧ (s = 2 → tk ((p + 23) % 24) = nI k ∧ ts ((p + 23) % 24) = q) ∧ goodA s a b k q A ∧ undoA s a b k q A = B) ∧ AOK L ln lt B ∧ 0 < aL B ∧ aL B = aL A ∧ AR L ln lt so fi se tk ts hs B ((p + 23) % 24)
def RImg (L : List Nat) (ln : Nat → Int32) (lt : Nat → Nat → Int32) (foot feet lines words : Int32) (sizes kinds : Nat → Int32) (spelled : Nat → Nat) (is : Int32) (row : Nat → Int32) : Prop :=
  (∀ j, j < 20 → spelled j ∈ L) ∧ ((is = 0 ∧ lines = 0) ∨ (is = 1 ∧ ∃ A, AOK L ln lt A ∧ 0 < aL A ∧ PC L A foot feet lines words sizes kinds spelled ∧ PR ln lt A row))
def RActs (L : List Nat) (ln : Nat → Int32) (lt : Nat → Nat → Int32) (A : AP) (next kept : Int32) (so fi se tk : Nat → Int32) (ts : Nat → Nat) (acts : Int32) (was : Nat → Int32) : Prop :=
  (∀ j, j < 24 → ts j ∈ L) ∧ ∃ p hs, p < 24 ∧ hs.length ≤ 24 ∧ next = nI p ∧ kept = nI hs.length ∧ acts = nI hs.length ∧ AR L ln lt so fi se tk ts hs A p ∧ ∀ j, j < hs.length → PR ln lt (hs.getD j (0, 0, [], [])) (fun i => was (207 * (hs.length - 1 - j) + i))
