/-! TEXTS: an automaton that reads a text byte by byte and works it out on the way (what the class's reader does, its code being worked out at once), and that the reference's descent agrees with it -/
/-- one number of the code, done to what stands there (the latest first) -/
def es (a b c : Int32) (s : Int32) (Vs : List Int32) : List Int32 :=
  if -3 ≤ s then (if 0 ≤ s then s else if s = -1 then a else if s = -2 then b else c) :: Vs
  else if s = -33 then (match Vs with | [] => [] | v :: r => (if v = 0 then 1 else 0) :: r)
  else (match Vs with | y :: x :: r => p6_joined x (-s) y :: r | o => o)
def rk (s : Int32) : Nat := if s = 37 then 5 else if s = 38 then 2 else if s = 42 then 5 else if s = 43 then 4 else if s = 45 then 4 else if s = 47 then 5 else if s = 60 then 3 else if s = 61 then 3 else if s = 62 then 3 else if s = 124 then 1 else 0
def hdk : List Int32 → Nat
  | [] => 0
  | s :: _ => rk s
abbrev aS : Type := List Int32 × List Int32 × Nat × Int32 × Nat × Bool
def cnA (a b c : Int32) (Vs : List Int32) : List Int32 → Nat → aS → aS
  | [], op, _ => (Vs, [], op, 0, 0, false)
  | s :: sg, op, z => if s = 33 then cnA a b c (es a b c (-33) Vs) sg (op - 1) z else (Vs, s :: sg, op, 0, 0, false)
def pdA (a b c : Int32) (r : Nat) (Vs : List Int32) : List Int32 → List Int32 × List Int32
  | [] => (Vs, [])
  | s :: sg => if r ≤ rk s then pdA a b c r (es a b c (-s) Vs) sg else (Vs, s :: sg)
def nmA (u : Nat) (ch : Int32) : Int32 := if ch = 109 then -1 else if ch = (if u = 0 then 102 else 103) then -2 else if ch = 104 then -3 else 0
def z0 : aS := ([], [], 0, 0, 0, false)
/-- a number that stands there ends -/
def ntA (a b c : Int32) (s : aS) : aS := if s.2.2.2.2.1 = 0 then s else cnA a b c (es a b c s.2.2.2.1 s.1) s.2.1 s.2.2.1 z0
def tmA (a b c : Int32) (u : Nat) (ch : Int32) (Vs sg : List Int32) (op : Nat) : Option aS :=
  if ch = 33 ∨ ch = 40 then (if op < 5 then some (Vs, ch :: sg, op + 1, 0, 0, true) else none)
  else if nmA u ch = 0 then none else some (cnA a b c (es a b c (nmA u ch) Vs) sg op z0)
def cbA (a b c : Int32) (op : Nat) (Vs : List Int32) : List Int32 → Option aS
  | [] => none
  | s :: sg => if s = 40 then some (cnA a b c Vs sg (op - 1) z0) else none
def tsA (a b c : Int32) (ch : Int32) (Vs sg : List Int32) (op : Nat) : Option aS :=
  if ch = 41 then cbA a b c op (pdA a b c 1 Vs sg).1 (pdA a b c 1 Vs sg).2
  else if rk ch = 0 then none
  else if rk ch = 3 ∧ hdk (pdA a b c 4 Vs sg).2 = 3 then none
  else some ((pdA a b c (if rk ch = 3 then 4 else rk ch) Vs sg).1, ch :: (pdA a b c (if rk ch = 3 then 4 else rk ch) Vs sg).2, op, 0, 0, true)
/-- a byte is read -/
def goA (a b c : Int32) (u : Nat) (ch : Int32) (s : aS) : Option aS :=
  if sF_isDigit ch = 0 then
    (if (ntA a b c s).2.2.2.2.2 = true then tmA a b c u ch (ntA a b c s).1 (ntA a b c s).2.1 (ntA a b c s).2.2.1 else tsA a b c ch (ntA a b c s).1 (ntA a b c s).2.1 (ntA a b c s).2.2.1)
  else if 0 < s.2.2.2.2.1 ∧ s.2.2.2.2.1 < 4 then some (s.1, s.2.1, s.2.2.1, s.2.2.2.1 * 10 + (ch - 48), s.2.2.2.2.1 + 1, false)
  else if s.2.2.2.2.2 = true then some (s.1, s.2.1, s.2.2.1, ch - 48, 1, false) else none
def btm : List Int32 → Int32
  | [] => 0
  | [x] => x
  | _ :: x :: r => btm (x :: r)
def fnA (a b c : Int32) (s : aS) : Nat × Option Int32 := if s.2.2.2.2.2 = true ∨ 0 < s.2.2.1 then (0, none) else (0, some (btm (pdA a b c 1 s.1 s.2.1).1))
/-- what comes of the bytes left: how many are left where no text goes on, or what it gives -/
def rn (a b c : Int32) (u : Nat) : List Int32 → aS → Nat × Option Int32
  | [], s => fnA a b c (ntA a b c s)
  | ch :: r, s => (goA a b c u ch s).elim (r.length + 1, none) (fun t => rn a b c u r t)
theorem rn_0 (a b c : Int32) (u : Nat) (s : aS) : rn a b c u [] s = fnA a b c (ntA a b c s) := rfl
theorem rn_1 (a b c : Int32) (u : Nat) (ch : Int32) (r : List Int32) (s : aS) : rn a b c u (ch :: r) s = (goA a b c u ch s).elim (r.length + 1, none) (fun t => rn a b c u r t) := rfl
def DU (Vs sg : List Int32) (op : Nat) : aS := (Vs, sg, op, 0, 0, true)
def AF (Vs sg : List Int32) (op : Nat) : aS := (Vs, sg, op, 0, 0, false)
def nr : List Int32 → Nat
  | [] => 0
  | ch :: _ => rk ch
/-- nothing above stands that a sign of rank l puts down -/
def tc (l : Nat) : List Int32 → Prop
  | [] => True
  | s :: _ => s ≠ 33 ∧ rk s < l
theorem nt_AF (a b c : Int32) (Vs sg : List Int32) (op : Nat) : ntA a b c (AF Vs sg op) = AF Vs sg op := rfl
theorem nt_DU (a b c : Int32) (Vs sg : List Int32) (op : Nat) : ntA a b c (DU Vs sg op) = DU Vs sg op := rfl
theorem go_AF (a b c : Int32) (u : Nat) (ch : Int32) (Vs sg : List Int32) (op : Nat) : goA a b c u ch (AF Vs sg op) = if sF_isDigit ch = 0 then tsA a b c ch Vs sg op else none := by
  unfold goA
  rw [nt_AF]
  by_cases h : sF_isDigit ch = 0
  · rw [if_pos h, if_pos h]
    rfl
  · rw [if_neg h, if_neg h]
    rfl
theorem go_DU (a b c : Int32) (u : Nat) (ch : Int32) (Vs sg : List Int32) (op : Nat) : goA a b c u ch (DU Vs sg op) = if sF_isDigit ch = 0 then tmA a b c u ch Vs sg op else some (Vs, sg, op, ch - 48, 1, false) := by
  unfold goA
  rw [nt_DU]
  by_cases h : sF_isDigit ch = 0
  · rw [if_pos h, if_pos h]
    rfl
  · rw [if_neg h, if_neg h]
    rfl
theorem pd_tc (a b c : Int32) {l : Nat} (Vs : List Int32) {sg : List Int32} (h : tc l sg) : pdA a b c l Vs sg = (Vs, sg) := by
  cases sg with
  | nil => rfl
  | cons s r => show (if l ≤ rk s then _ else _) = _; rw [if_neg (Nat.not_le.mpr h.2)]
theorem cn_tc (a b c : Int32) {l : Nat} (Vs : List Int32) {sg : List Int32} (op : Nat) (z : aS) (h : tc l sg) : cnA a b c Vs sg op z = AF Vs sg op := by
  cases sg with
  | nil => rfl
  | cons s r => show (if s = 33 then _ else _) = _; rw [if_neg h.1]; rfl
theorem tc_le {l m : Nat} {sg : List Int32} (h : tc l sg) (g : l ≤ m) : tc m sg := by
  cases sg with
  | nil => trivial
  | cons s r => exact ⟨h.1, Nat.lt_of_lt_of_le h.2 g⟩
theorem rk_le (s : Int32) : rk s ≤ 5 := by
  unfold rk
  repeat' split
  all_goals omega
theorem rk_33 : rk 33 = 0 := by decide
/-- the signs between two -/
theorem rk_cs {s : Int32} (h : 1 ≤ rk s) : s = 37 ∨ s = 38 ∨ s = 42 ∨ s = 43 ∨ s = 45 ∨ s = 47 ∨ s = 60 ∨ s = 61 ∨ s = 62 ∨ s = 124 := by
  unfold rk at h
  repeat' split at h
  all_goals first | omega | (simp_all)
theorem es_op (a b c : Int32) {s : Int32} (h : 1 ≤ rk s) (y x : Int32) (r : List Int32) : es a b c (-s) (y :: x :: r) = p6_joined x s y :: r := by
  rcases rk_cs h with rfl | rfl | rfl | rfl | rfl | rfl | rfl | rfl | rfl | rfl <;> rfl
theorem dg_rk {ch : Int32} (h : 1 ≤ rk ch) : sF_isDigit ch = 0 ∧ ch ≠ 41 ∧ ch ≠ 33 := by
  rcases rk_cs h with rfl | rfl | rfl | rfl | rfl | rfl | rfl | rfl | rfl | rfl <;> exact ⟨by decide, by decide, by decide⟩
/-- what stands there may be put down at once, if no sign comes that binds more closely -/
theorem rn_red (a b c : Int32) (u : Nat) {s : Int32} (h1 : 1 ≤ rk s) {r : List Int32} (h2 : nr r ≤ rk s) (h3 : ¬ (rk s = 3 ∧ nr r = 3)) (y x : Int32) (Vs sg : List Int32) (op : Nat) : rn a b c u r (AF (y :: x :: Vs) (s :: sg) op) = rn a b c u r (AF (p6_joined x s y :: Vs) sg op) := by
  have hp : ∀ l, l ≤ rk s → pdA a b c l (y :: x :: Vs) (s :: sg) = pdA a b c l (p6_joined x s y :: Vs) sg := fun l hl => by
    show (if l ≤ rk s then _ else _) = _
    rw [if_pos hl, es_op a b c h1]
  cases r with
  | nil =>
    rw [rn_0, rn_0, nt_AF, nt_AF]
    unfold fnA AF
    show (if (false = true ∨ 0 < op) then _ else (0, some (btm (pdA a b c 1 (y :: x :: Vs) (s :: sg)).1))) = _
    rw [hp 1 h1]
  | cons ch t =>
    rw [rn_1, rn_1, go_AF, go_AF]
    have h2' : rk ch ≤ rk s := h2
    have h3' : ¬ (rk s = 3 ∧ rk ch = 3) := h3
    congr 1
    by_cases hd : sF_isDigit ch = 0
    · rw [if_pos hd, if_pos hd]
      unfold tsA
      by_cases h41 : ch = 41
      · rw [if_pos h41, if_pos h41, hp 1 h1]
      · rw [if_neg h41, if_neg h41]
        by_cases h0 : rk ch = 0
        · rw [if_pos h0, if_pos h0]
        · rw [if_neg h0, if_neg h0]
          by_cases hq : rk ch = 3
          · rw [if_pos hq, hp 4 (by omega)]
          · rw [if_neg hq, hp _ h2', if_neg (fun e => hq e.1), if_neg (fun e => hq e.1)]
    · rw [if_neg hd, if_neg hd]
/-- a sign is read where nothing is put down -/
theorem rn_sign (a b c : Int32) (u : Nat) {ch : Int32} (h1 : 1 ≤ rk ch) (t : List Int32) (Vs : List Int32) {sg : List Int32} (op : Nat) (h : tc (rk ch) sg) : rn a b c u (ch :: t) (AF Vs sg op) = rn a b c u t (DU Vs (ch :: sg) op) := by
  obtain ⟨hd, h41, _⟩ := dg_rk h1
  rw [rn_1, go_AF, if_pos hd]
  unfold tsA
  rw [if_neg h41, if_neg (show ¬ rk ch = 0 by omega)]
  by_cases hq : rk ch = 3
  · rw [pd_tc a b c Vs (tc_le (m := 4) h (by omega)), if_neg, if_pos hq]
    · rw [pd_tc a b c Vs (tc_le (m := 4) h (by omega))]; rfl
    · intro e
      have e2 := e.2
      cases sg with
      | nil => exact absurd (show (0 : Nat) = 3 from e2) (by decide)
      | cons s r => have := h.2; have e3 : rk s = 3 := e2; omega
  · rw [if_neg (fun e => hq e.1), if_neg hq, pd_tc a b c Vs h]
    rfl
/-- a byte that is neither a sign between two nor ) -/
theorem rn_bad (a b c : Int32) (u : Nat) {r : List Int32} (h0 : nr r = 0) (h : ∀ ch t, r = ch :: t → ch ≠ 41) (Vs sg : List Int32) (op : Nat) (ho : r = [] → 0 < op) : rn a b c u r (AF Vs sg op) = (r.length, none) := by
  cases r with
  | nil =>
    rw [rn_0, nt_AF]
    unfold fnA AF
    exact if_pos (Or.inr (ho rfl))
  | cons ch t =>
    rw [rn_1, go_AF]
    have h41 := h ch t rfl
    have h0' : rk ch = 0 := h0
    by_cases hd : sF_isDigit ch = 0
    · rw [if_pos hd]
      unfold tsA
      rw [if_neg h41, if_pos h0']
      rfl
    · rw [if_neg hd]
      rfl
/-- two signs of comparing -/
theorem rn_cmp (a b c : Int32) (u : Nat) {s : Int32} (hs : rk s = 3) {r : List Int32} (hr : nr r = 3) (Vs sg : List Int32) (op : Nat) : rn a b c u r (AF Vs (s :: sg) op) = (r.length, none) := by
  cases r with
  | nil => exact absurd hr (by decide)
  | cons ch t =>
    have hr' : rk ch = 3 := hr
    obtain ⟨hd, h41, _⟩ := dg_rk (ch := ch) (by omega)
    rw [rn_1, go_AF, if_pos hd]
    unfold tsA
    have hp : pdA a b c 4 Vs (s :: sg) = (Vs, s :: sg) := by
      show (if 4 ≤ rk s then _ else _) = _
      rw [if_neg (by omega)]
    rw [if_neg h41, if_neg (by omega), hp, if_pos ⟨hr', hs⟩]
    rfl
