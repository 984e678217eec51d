/-! of 03.mbase -/
abbrev mS : Type := Nat → Nat → Int32
/-- number k of row j becomes x -/
def mU (M : mS) (j k : Nat) (x : Int32) : mS := va_up M j (upd (M j) k x)
def lt {α β : Type} (e : α) (f : α → β) : β := f e
def lt2 {α β γ : Type} (e : α × β) (f : α → β → γ) : γ := f e.1 e.2
def lt3 {α β γ δ : Type} (e : α × β × γ) (f : α → β → γ → δ) : δ := f e.1 e.2.1 e.2.2
def lt4 {α β γ δ ε : Type} (e : α × β × γ × δ) (f : α → β → γ → δ → ε) : ε := f e.1 e.2.1 e.2.2.1 e.2.2.2
theorem lt_e {α β : Type} {e x : α} {f : α → β} (h : x = e) : lt e f = f x := by rw [h]; rfl
theorem lt2_e {α β γ : Type} {e : α × β} {x : α} {y : β} {f : α → β → γ} (h : (x, y) = e) : lt2 e f = f x y := by rw [← h]; rfl
theorem lt3_e {α β γ δ : Type} {e : α × β × γ} {x : α} {y : β} {z : γ} {f : α → β → γ → δ} (h : (x, y, z) = e) : lt3 e f = f x y z := by rw [← h]; rfl
theorem lt4_e {α β γ δ ε : Type} {e : α × β × γ × δ} {x : α} {y : β} {z : γ} {w : δ} {f : α → β → γ → δ → ε} (h : (x, y, z, w) = e) : lt4 e f = f x y z w := by rw [← h]; rfl
theorem nt_add {x y : Int32} {b d : Nat} (h : x = nI b) (g : y = nI d) : x + y = nI (b + d) := by rw [h, g]; exact nI_add b d
theorem nt_mul {x y : Int32} {b d : Nat} (h : x = nI b) (g : y = nI d) : x * y = nI (b * d) := by rw [h, g]; exact pk_mul b d
theorem nt_sub {x y : Int32} {b d : Nat} (h : x = nI b) (g : y = nI d) (k : d ≤ b) : x - y = nI (b - d) := by rw [h, g]; exact pk_sub k
theorem nt_le {x y : Int32} {b d : Nat} (h : x = nI b) (g : y = nI d) (hb : b < 2 ^ 31) (hd : d < 2 ^ 31) : x ≤ y ↔ b ≤ d := by rw [h, g]; exact nI_leI hb hd
theorem nt_lt {x y : Int32} {b d : Nat} (h : x = nI b) (g : y = nI d) (hb : b < 2 ^ 31) (hd : d < 2 ^ 31) : x < y ↔ b < d := by rw [h, g]; exact nI_ltI hb hd
theorem nt_eq {x y : Int32} {b d : Nat} (h : x = nI b) (g : y = nI d) (hb : b < 2 ^ 31) (hd : d < 2 ^ 31) : x = y ↔ b = d := by rw [h, g]; exact nI_eq hb hd
theorem nt_subi {x : Int32} {b : Nat} (h : x = nI b) (k : 1 ≤ b) : x + Int32.ofInt (-1) = nI (b - 1) := by
  rw [h]
  have := pk_m1 (b - 1)
  rw [Nat.sub_add_cancel k] at this
  exact this
theorem sw_out {x : Int32} {lo hi : Int} (h : ∀ i : Int, lo ≤ i → i ≤ hi → ¬ x.toInt = i) : x.toInt < lo ∨ hi < x.toInt := by
  by_cases h1 : x.toInt < lo
  · exact Or.inl h1
  · by_cases h2 : hi < x.toInt
    · exact Or.inr h2
    · exact absurd rfl (h x.toInt (by omega) (by omega))
theorem vi_eq {x : Int32} {n : Nat} (h : vp_in x n) (hn : n < 2 ^ 31) : x = nI x.toNatClampNeg := by
  obtain ⟨j, hj, rfl⟩ := vp_in_of h hn
  rw [nI_clamp (Nat.lt_trans hj hn)]
theorem vi_lt {x : Int32} {n : Nat} (h : vp_in x n) (hn : n < 2 ^ 31) : x.toNatClampNeg < n := by
  obtain ⟨j, hj, rfl⟩ := vp_in_of h hn
  rw [nI_clamp (Nat.lt_trans hj hn)]
  exact hj
abbrev sS : Type := Nat → Int32
/-! of 04.ref1 -/
def vn (x : Int32) : Nat := x.toNatClampNeg
theorem lp_in {x : Int32} {n k : Nat} (hx : x = nI n) (h : k < n) (hn : n < 2 ^ 31) : ¬ x ≤ nI k := by rw [hx, nI_leI hn (Nat.lt_trans h hn)]; omega
theorem lp_out {x : Int32} {n : Nat} (hx : x = nI n) : x ≤ nI n := by rw [hx]; exact Int32.le_refl _
theorem bits_dec {x : Int32} (h : ¬ x = 0) : (x &&& (x - 1)).toUInt32.toNat < x.toUInt32.toNat := by
  have h1 : (x &&& (x - 1)).toUInt32.toNat = (x.toBitVec &&& (x.toBitVec - 1#32)).toNat := rfl
  have h2 : x.toUInt32.toNat = x.toBitVec.toNat := rfl
  rw [h1, h2, BitVec.toNat_and]
  have h3 : x.toBitVec ≠ 0#32 := fun e9 => h (Int32.toBitVec_inj.mp e9)
  have h4 : x.toBitVec.toNat ≠ 0 := fun e9 => h3 (BitVec.eq_of_toNat_eq e9)
  have h5 : (x.toBitVec - 1#32).toNat = x.toBitVec.toNat - 1 := by
    rw [BitVec.toNat_sub]
    have := x.toBitVec.isLt
    simp
    omega
  rw [h5]
  exact Nat.lt_of_le_of_lt Nat.and_le_right (by omega)
def sF_in (v : Int32) (lo : Int32) (hi : Int32) : Int32 := (if v < lo then 0 else (if hi < v then 0 else 1))
theorem sF_in_01 (v : Int32) (lo : Int32) (hi : Int32) : sF_in v lo hi = 0 ∨ sF_in v lo hi = 1 := by
  unfold sF_in
  repeat' split
  all_goals first | exact Or.inl rfl | exact Or.inr rfl | exact sF_in_01 .. | skip
def sF_held (v : Int32) (lo : Int32) (hi : Int32) : Int32 := (if lo ≤ v then (if v ≤ hi then v else hi) else lo)
def sF_has (set : Int32) (k : Int32) : Int32 := (if ((set >>> (k &&& 31)) &&& 1) = 1 then 1 else 0)
theorem sF_has_01 (set : Int32) (k : Int32) : sF_has set k = 0 ∨ sF_has set k = 1 := by
  unfold sF_has
  repeat' split
  all_goals first | exact Or.inl rfl | exact Or.inr rfl | exact sF_in_01 .. | skip
def sF_isDigit (c : Int32) : Int32 := (sF_in c 48 57)
theorem sF_isDigit_01 (c : Int32) : sF_isDigit c = 0 ∨ sF_isDigit c = 1 := by
  unfold sF_isDigit
  repeat' split
  all_goals first | exact Or.inl rfl | exact Or.inr rfl | exact sF_in_01 .. | skip
def sF_isSheet (c : Int32) : Int32 := (sF_in c 0 3)
theorem sF_isSheet_01 (c : Int32) : sF_isSheet c = 0 ∨ sF_isSheet c = 1 := by
  unfold sF_isSheet
  repeat' split
  all_goals first | exact Or.inl rfl | exact Or.inr rfl | exact sF_in_01 .. | skip
def sF_above (kind : Int32) : Int32 := (if kind = 0 then (-1) else (if kind ≤ 3 then 0 else (kind - 3)))
def sF_narrow (b : Int32) (v : Int32) : Int32 := (if b = 8 then (v.toInt8.toInt32) else (if b = 16 then (v.toInt16.toInt32) else v))
def sF_bits_L4 : Nat → Int32 → Int32 → Int32 × Int32
  | 0, v2_4, v1_4 => (v2_4, v1_4)
  | f + 1, v2_4, v1_4 => (if v2_4 = 0 then (v2_4, v1_4) else (lt (v2_4 &&& (v2_4 - 1)) fun (x16 : Int32) => (sF_bits_L4 f x16 (v1_4 + 1))))
theorem sF_bits_L4_s (f : Nat) (v2_4 : Int32) (v1_4 : Int32) : sF_bits_L4 (f + 1) v2_4 v1_4 = (if v2_4 = 0 then (v2_4, v1_4) else (lt (v2_4 &&& (v2_4 - 1)) fun (x16 : Int32) => (sF_bits_L4 f x16 (v1_4 + 1)))) := rfl
def sF_bits (set : Int32) : Int32 := (lt2 (sF_bits_L4 (set.toUInt32.toNat + 1) set 0) fun (v2_4x : Int32) (v1_4x : Int32) => v1_4x)
def sF_divisor_L4 : Nat → Nat → Nat → Nat × Nat
  | 0, x, y => (x, y)
  | f + 1, x, y => (if (nI y) = 0 then (x, y) else (sF_divisor_L4 f y (x % y)))
theorem sF_divisor_L4_s (f : Nat) (x : Nat) (y : Nat) : sF_divisor_L4 (f + 1) x y = (if (nI y) = 0 then (x, y) else (sF_divisor_L4 f y (x % y))) := rfl
def sF_divisor (u : Nat) (w : Nat) : Int32 := (lt2 (sF_divisor_L4 (w + 1) u w) fun (xx : Nat) (yx : Nat) => nI xx)
def mF_its (M : mS) (p : Nat) (w : Nat) : Int32 := (M 1 ((32 + (4 * p)) + w))
def mF_gets (M : mS) (p : Nat) (w : Nat) (v : Int32) : mS := (lt (mU M 1 ((32 + (4 * p)) + w) v) fun (M13 : mS) => M13)
def mF_becomes (M : mS) (at_ : Nat) (v : Int32) : Int32 × mS := (lt (M 1 at_) fun (x6 : Int32) => lt (mU M 1 at_ v) fun (M13 : mS) => (x6, M13))
def mF_errs (M : mS) (e : Int32) : Int32 × mS := (lt (mU M 5 (vn (-1000000000 - e)) ((M 5 (vn (-1000000000 - e))) + 1)) fun (M12 : mS) => (e, M12))
def mF_isCell (M : mS) (c : Int32) : Int32 := (sF_in c 0 ((M 1 3) - 1))
theorem mF_isCell_01 (M : mS) (c : Int32) : mF_isCell M c = 0 ∨ mF_isCell M c = 1 := by
  unfold mF_isCell
  repeat' split
  all_goals first | exact Or.inl rfl | exact Or.inr rfl | exact sF_in_01 .. | skip
def mF_isPerson (M : mS) (c : Int32) : Int32 := (sF_in c 0 ((M 1 8) - 1))
theorem mF_isPerson_01 (M : mS) (c : Int32) : mF_isPerson M c = 0 ∨ mF_isPerson M c = 1 := by
  unfold mF_isPerson
  repeat' split
  all_goals first | exact Or.inl rfl | exact Or.inr rfl | exact sF_in_01 .. | skip
def mF_moveAll_1_2_L2 (M : mS) : Nat → mS
  | 0 => M
  | k2 + 1 => lt (mF_moveAll_1_2_L2 M k2) fun (M2 : mS) => (lt (mU M2 2 k2 (M2 1 k2)) fun (M14 : mS) => M14)
theorem mF_moveAll_1_2_L2_0 (M : mS) : mF_moveAll_1_2_L2 M 0 = M := rfl
theorem mF_moveAll_1_2_L2_s (M : mS) (k2 : Nat) : mF_moveAll_1_2_L2 M (k2 + 1) = lt (mF_moveAll_1_2_L2 M k2) fun (M2 : mS) => (lt (mU M2 2 k2 (M2 1 k2)) fun (M14 : mS) => M14) := rfl
def mF_moveAll_1_2 (M : mS) : mS := (lt (mF_moveAll_1_2_L2 M 234) fun (M2x : mS) => M2x)
def mF_moveAll_2_1_L2 (M : mS) : Nat → mS
  | 0 => M
  | k2 + 1 => lt (mF_moveAll_2_1_L2 M k2) fun (M2 : mS) => (lt (mU M2 1 k2 (M2 2 k2)) fun (M14 : mS) => M14)
theorem mF_moveAll_2_1_L2_0 (M : mS) : mF_moveAll_2_1_L2 M 0 = M := rfl
theorem mF_moveAll_2_1_L2_s (M : mS) (k2 : Nat) : mF_moveAll_2_1_L2 M (k2 + 1) = lt (mF_moveAll_2_1_L2 M k2) fun (M2 : mS) => (lt (mU M2 1 k2 (M2 2 k2)) fun (M14 : mS) => M14) := rfl
def mF_moveAll_2_1 (M : mS) : mS := (lt (mF_moveAll_2_1_L2 M 234) fun (M2x : mS) => M2x)
def mF_moveAll_1_3_L2 (M : mS) : Nat → mS
  | 0 => M
  | k2 + 1 => lt (mF_moveAll_1_3_L2 M k2) fun (M2 : mS) => (lt (mU M2 3 k2 (M2 1 k2)) fun (M14 : mS) => M14)
theorem mF_moveAll_1_3_L2_0 (M : mS) : mF_moveAll_1_3_L2 M 0 = M := rfl
theorem mF_moveAll_1_3_L2_s (M : mS) (k2 : Nat) : mF_moveAll_1_3_L2 M (k2 + 1) = lt (mF_moveAll_1_3_L2 M k2) fun (M2 : mS) => (lt (mU M2 3 k2 (M2 1 k2)) fun (M14 : mS) => M14) := rfl
def mF_moveAll_1_3 (M : mS) : mS := (lt (mF_moveAll_1_3_L2 M 234) fun (M2x : mS) => M2x)
def mF_moveAll_3_1_L2 (M : mS) : Nat → mS
  | 0 => M
  | k2 + 1 => lt (mF_moveAll_3_1_L2 M k2) fun (M2 : mS) => (lt (mU M2 1 k2 (M2 3 k2)) fun (M14 : mS) => M14)
theorem mF_moveAll_3_1_L2_0 (M : mS) : mF_moveAll_3_1_L2 M 0 = M := rfl
theorem mF_moveAll_3_1_L2_s (M : mS) (k2 : Nat) : mF_moveAll_3_1_L2 M (k2 + 1) = lt (mF_moveAll_3_1_L2 M k2) fun (M2 : mS) => (lt (mU M2 1 k2 (M2 3 k2)) fun (M14 : mS) => M14) := rfl
def mF_moveAll_3_1 (M : mS) : mS := (lt (mF_moveAll_3_1_L2 M 234) fun (M2x : mS) => M2x)
def mF_moveAll_1_4_L2 (M : mS) : Nat → mS
  | 0 => M
  | k2 + 1 => lt (mF_moveAll_1_4_L2 M k2) fun (M2 : mS) => (lt (mU M2 4 k2 (M2 1 k2)) fun (M14 : mS) => M14)
theorem mF_moveAll_1_4_L2_0 (M : mS) : mF_moveAll_1_4_L2 M 0 = M := rfl
theorem mF_moveAll_1_4_L2_s (M : mS) (k2 : Nat) : mF_moveAll_1_4_L2 M (k2 + 1) = lt (mF_moveAll_1_4_L2 M k2) fun (M2 : mS) => (lt (mU M2 4 k2 (M2 1 k2)) fun (M14 : mS) => M14) := rfl
def mF_moveAll_1_4 (M : mS) : mS := (lt (mF_moveAll_1_4_L2 M 234) fun (M2x : mS) => M2x)
def mF_moveAll_4_1_L2 (M : mS) : Nat → mS
  | 0 => M
  | k2 + 1 => lt (mF_moveAll_4_1_L2 M k2) fun (M2 : mS) => (lt (mU M2 1 k2 (M2 4 k2)) fun (M14 : mS) => M14)
theorem mF_moveAll_4_1_L2_0 (M : mS) : mF_moveAll_4_1_L2 M 0 = M := rfl
theorem mF_moveAll_4_1_L2_s (M : mS) (k2 : Nat) : mF_moveAll_4_1_L2 M (k2 + 1) = lt (mF_moveAll_4_1_L2 M k2) fun (M2 : mS) => (lt (mU M2 1 k2 (M2 4 k2)) fun (M14 : mS) => M14) := rfl
def mF_moveAll_4_1 (M : mS) : mS := (lt (mF_moveAll_4_1_L2 M 234) fun (M2x : mS) => M2x)
def mF_tells (M : mS) (b1 : Int32) (b2 : Int32) (b3 : Int32) (b4 : Int32) : mS := (lt (mU M 7 0 b1) fun (M6 : mS) => lt (mU M6 7 1 b2) fun (M13 : mS) => lt (mU M13 7 2 b3) fun (M20 : mS) => lt (mU M20 7 3 b4) fun (M28 : mS) => M28)
/-! of 05.ref2 -/
def cOK (M : mS) : Prop := M 1 3 = nI (vn (M 1 3)) ∧ 3 ≤ vn (M 1 3) ∧ vn (M 1 3) ≤ 10
def pOK (M : mS) : Prop := M 1 8 = nI (vn (M 1 8)) ∧ vn (M 1 8) ≤ 8
def tOK (M : mS) : Prop := M 1 4 = nI (vn (M 1 4)) ∧ vn (M 1 4) ≤ 50
def wOK (M : mS) : Prop := M 1 5 = nI (vn (M 1 5)) ∧ vn (M 1 5) ≤ 20
def kOK (M : mS) : Prop := ∀ q, q < 8 → M 1 (32 + 4 * q + 0) = nI (vn (M 1 (32 + 4 * q + 0))) ∧ vn (M 1 (32 + 4 * q + 0)) ≤ 6
def aOK (M : mS) : Prop := ∀ q, q < 8 → M 1 (32 + 4 * q + 2) = nI (vn (M 1 (32 + 4 * q + 2))) ∧ vn (M 1 (32 + 4 * q + 2)) < 10
def sOK (M : mS) : Prop := ∀ u, u < 2 → M 1 (6 + u) = -1 ∨ (M 1 (6 + u) = nI (vn (M 1 (6 + u))) ∧ vn (M 1 (6 + u)) ≤ 50)
def zOK (M : mS) : Prop := ∀ q, q < 4 → M 9 q = nI (vn (M 9 q)) ∧ vn (M 9 q) ≤ 40
def vOK (M : mS) : Prop := M 0 24 = nI (vn (M 0 24)) ∧ vn (M 0 24) ≤ 40
theorem vn_nI {n : Nat} (h : n < 2 ^ 31) : vn (nI n) = n := nI_clamp h
theorem in_of {v lo hi : Int32} (h : ¬ sF_in v lo hi = 0) : ¬ v < lo ∧ ¬ hi < v := by
  unfold sF_in at h
  by_cases h1 : v < lo
  · rw [if_pos h1] at h; exact absurd rfl h
  · rw [if_neg h1] at h
    by_cases h2 : hi < v
    · rw [if_pos h2] at h; exact absurd rfl h
    · exact ⟨h1, h2⟩
theorem nn_of {x : Int32} {n : Nat} (h : ¬ x < 0) (g : x ≤ nI n) (hn : n < 2 ^ 31) : x = nI (vn x) ∧ vn x ≤ n := by
  obtain ⟨j, hj, rfl⟩ := nI_of2 (M := nI n) (n := n) (nI_toInt hn) h g
  rw [vn_nI (by omega)]
  exact ⟨rfl, hj⟩
theorem in_nat {v hi : Int32} {n : Nat} (h : ¬ sF_in v 0 hi = 0) (hh : hi = nI n ∧ n < 2 ^ 31) : v = nI (vn v) ∧ vn v ≤ n := by
  obtain ⟨h1, h2⟩ := in_of h
  rw [hh.1] at h2
  exact nn_of h1 (Int32.not_lt.mp h2) hh.2
theorem in_m1 (v : Int32) : sF_in v 0 (nI 0 - 1) = 0 := by
  unfold sF_in
  by_cases h : v < 0
  · rw [if_pos h]
  · rw [if_neg h, if_pos]
    have h1 : (nI 0 - 1) < 0 := by decide
    exact Int32.lt_of_lt_of_le h1 (Int32.not_lt.mp h)
theorem nt_subI {x : Int32} {n : Nat} (h : x = nI n) (h0 : ¬ n = 0) (hn : n < 2 ^ 31 := by omega) : x - 1 = nI (n - 1) ∧ n - 1 < 2 ^ 31 := ⟨nt_sub h rfl (by omega), by omega⟩
theorem cell_of {M : mS} {c : Int32} (hC : cOK M) (h : ¬ mF_isCell M c = 0) : c = nI (vn c) ∧ vn c < vn (M 1 3) := by
  have h2 := hC.2
  obtain ⟨a, b⟩ := in_nat h (nt_subI hC.1 (by omega))
  exact ⟨a, by omega⟩
theorem person_of {M : mS} {c : Int32} (hP : pOK M) (h : ¬ mF_isPerson M c = 0) : c = nI (vn c) ∧ vn c < vn (M 1 8) := by
  have h2 := hP.2
  by_cases h0 : vn (M 1 8) = 0
  · exfalso
    apply h
    unfold mF_isPerson
    rw [hP.1, h0]
    exact in_m1 c
  · obtain ⟨a, b⟩ := in_nat h (nt_subI hP.1 h0)
    exact ⟨a, by omega⟩
theorem sheet_of {c : Int32} (h : ¬ sF_isSheet c = 0) : c = nI (vn c) ∧ vn c < 4 := by
  obtain ⟨a, b⟩ := in_nat (n := 3) h ⟨rfl, by decide⟩
  exact ⟨a, by omega⟩
theorem in_1n {v : Int32} (h : ¬ sF_in v 1 5 = 0) : v = nI (vn v) ∧ vn v ≤ 5 := by
  obtain ⟨h1, h2⟩ := in_of h
  refine nn_of (n := 5) (fun e9 => h1 (Int32.lt_trans e9 (by decide))) (Int32.not_lt.mp h2) (by decide)
theorem ran_lt {M : mS} (hV : vOK M) (h : ¬ 40 ≤ M 0 24) : vn (M 0 24) < 40 := by
  rw [hV.1, show (40 : Int32) = nI 40 from rfl, nI_leI (by decide) (by have := hV.2; omega)] at h
  omega
theorem tell_lt {M : mS} (hW : wOK M) (h : ¬ M 1 5 = 20) : vn (M 1 5) < 20 := by
  have h2 := hW.2
  rcases Nat.lt_or_ge (vn (M 1 5)) 20 with q | q
  · exact q
  · exfalso
    apply h
    rw [hW.1, show vn (M 1 5) = 20 by omega]
    rfl
def kl (x : Int32) : Nat := if x = -1 then 0 else if x = 0 then 1 else if x ≤ 3 then 2 else 3
def kch (x : Int32) : Prop := x = -1 ∨ ∃ j, j ≤ 6 ∧ x = nI j
theorem above_kl {x : Int32} (h : ∃ j, j ≤ 6 ∧ x = nI j) : kch (sF_above x) ∧ kl (sF_above x) < kl x := by
  obtain ⟨j, hj, rfl⟩ := h
  rcases (show j = 0 ∨ j = 1 ∨ j = 2 ∨ j = 3 ∨ j = 4 ∨ j = 5 ∨ j = 6 by omega) with rfl | rfl | rfl | rfl | rfl | rfl | rfl
  · exact ⟨Or.inl (by decide), by decide⟩
  · exact ⟨Or.inr ⟨0, by decide, by decide⟩, by decide⟩
  · exact ⟨Or.inr ⟨0, by decide, by decide⟩, by decide⟩
  · exact ⟨Or.inr ⟨0, by decide, by decide⟩, by decide⟩
  · exact ⟨Or.inr ⟨1, by decide, by decide⟩, by decide⟩
  · exact ⟨Or.inr ⟨2, by decide, by decide⟩, by decide⟩
  · exact ⟨Or.inr ⟨3, by decide, by decide⟩, by decide⟩
theorem kl_le (x : Int32) : kl x < 8 := by unfold kl; repeat' split
                                           all_goals omega
theorem kch_its {M : mS} {q : Nat} {x : Int32} (hK : kOK M) (hq : q < 8) (hx : x = mF_its M q 0) : kch x ∧ kl x < 8 := by
  refine ⟨Or.inr ⟨_, (hK q hq).2, ?_⟩, kl_le x⟩
  rw [hx]
  exact (hK q hq).1
theorem lead_w {M : mS} {what v y : Int32} (hX : y = (if what = 0 then (mF_isCell M v) else (if what = 1 then (if (sF_in v (-1) 1) = 0 then 0 else 1) else 0))) (h : ¬ y = 0) : what = nI (vn what) ∧ vn what ≤ 1 := by
  by_cases h0 : what = 0
  · subst h0; exact ⟨rfl, by decide⟩
  · by_cases h1 : what = 1
    · subst h1; exact ⟨rfl, by decide⟩
    · rw [if_neg h0, if_neg h1] at hX; exact absurd hX h
def mF_whoIsAt_L4 (M : mS) (c : Int32) : Nat → Int32
  | 0 => 0
  | k4 + 1 => lt (mF_whoIsAt_L4 M c k4) fun (v2_4 : Int32) => (lt ((if (mF_its M k4 2) = c then (1 <<< ((nI k4) &&& 31)) else 0) : Int32) fun (y33 : Int32) => (lt (v2_4 ||| y33) fun (x34 : Int32) => x34))
theorem mF_whoIsAt_L4_0 (M : mS) (c : Int32) : mF_whoIsAt_L4 M c 0 = 0 := rfl
theorem mF_whoIsAt_L4_s (M : mS) (c : Int32) (k4 : Nat) : mF_whoIsAt_L4 M c (k4 + 1) = lt (mF_whoIsAt_L4 M c k4) fun (v2_4 : Int32) => (lt ((if (mF_its M k4 2) = c then (1 <<< ((nI k4) &&& 31)) else 0) : Int32) fun (y33 : Int32) => (lt (v2_4 ||| y33) fun (x34 : Int32) => x34)) := rfl
def mF_whoIsAt (M : mS) (c : Int32) : Int32 := (lt (mF_whoIsAt_L4 M c (vn (M 1 8))) fun (v2_4x : Int32) => v2_4x)
def mF_grains_L4 (M : mS) : Nat → Int32
  | 0 => 0
  | k4 + 1 => lt (mF_grains_L4 M k4) fun (v1_4 : Int32) => (lt (v1_4 + (M 1 (12 + k4))) fun (x25 : Int32) => x25)
theorem mF_grains_L4_0 (M : mS) : mF_grains_L4 M 0 = 0 := rfl
theorem mF_grains_L4_s (M : mS) (k4 : Nat) : mF_grains_L4 M (k4 + 1) = lt (mF_grains_L4 M k4) fun (v1_4 : Int32) => (lt (v1_4 + (M 1 (12 + k4))) fun (x25 : Int32) => x25) := rfl
def mF_grains (M : mS) : Int32 := (lt (mF_grains_L4 M (vn (M 1 3))) fun (v1_4x : Int32) => v1_4x)
def mF_field_L36 (M : mS) : Nat → mS
  | 0 => M
  | k36 + 1 => lt (mF_field_L36 M k36) fun (M36 : mS) => (lt (mU M36 1 (12 + k36) 0) fun (M51 : mS) => lt (mU M51 1 (22 + k36) 0) fun (M61 : mS) => M61)
theorem mF_field_L36_0 (M : mS) : mF_field_L36 M 0 = M := rfl
theorem mF_field_L36_s (M : mS) (k36 : Nat) : mF_field_L36 M (k36 + 1) = lt (mF_field_L36 M k36) fun (M36 : mS) => (lt (mU M36 1 (12 + k36) 0) fun (M51 : mS) => lt (mU M51 1 (22 + k36) 0) fun (M61 : mS) => M61) := rfl
def mF_field (M : mS) (n : Int32) : Int32 × mS := (if (sF_in n 3 10) = 0 then (lt2 (mF_errs M (-1000000001)) fun (x13 : Int32) (M13 : mS) => (x13, M13)) else (if (M 1 8) ≤ 0 then (lt (mF_field_L36 M 10) fun (M36x : mS) => (lt (mU M36x 1 9 0) fun (M75 : mS) => lt (mU M75 1 10 0) fun (M83 : mS) => lt2 (mF_becomes M83 3 n) fun (x87 : Int32) (M87 : mS) => (x87, M87))) else (lt2 (mF_errs M (-1000000003)) fun (x30 : Int32) (M30 : mS) => (x30, M30))))
def mF_sow (M : mS) (c : Int32) (what : Int32) (v : Int32) : Int32 × mS := (if (mF_isCell M c) = 0 then (lt2 (mF_errs M (-1000000001)) fun (x39 : Int32) (M39 : mS) => (x39, M39)) else (if (sF_in what 0 1) = 0 then (lt2 (mF_errs M (-1000000001)) fun (x39 : Int32) (M39 : mS) => (x39, M39)) else (lt ((if what = 0 then 99999 else 99) : Int32) fun (y30 : Int32) => (if (sF_in v 0 y30) = 0 then (lt2 (mF_errs M (-1000000001)) fun (x39 : Int32) (M39 : mS) => (x39, M39)) else (if what = 0 then (lt2 (mF_becomes M (12 + (vn c)) v) fun (x60 : Int32) (M60 : mS) => (x60, M60)) else (lt2 (mF_becomes M (22 + (vn c)) v) fun (x60 : Int32) (M60 : mS) => (x60, M60)))))))
def mF_lay (M : mS) (what : Int32) (v : Int32) : Int32 × mS := (if what = 0 then (if (sF_in v 0 ((1 <<< (((M 1 3) - 1) &&& 31)) - 1)) = 0 then (lt2 (mF_errs M (-1000000001)) fun (x61 : Int32) (M61 : mS) => (x61, M61)) else (lt2 (mF_becomes M 9 v) fun (x52 : Int32) (M52 : mS) => (x52, M52))) else (if what = 1 then (if (sF_in v 0 ((1 <<< ((M 1 3) &&& 31)) - 1)) = 0 then (lt2 (mF_errs M (-1000000001)) fun (x96 : Int32) (M96 : mS) => (x96, M96)) else (lt2 (mF_becomes M 10 v) fun (x87 : Int32) (M87 : mS) => (x87, M87))) else (if what = 2 then (if (sF_in v 0 9) = 0 then (lt2 (mF_errs M (-1000000001)) fun (x122 : Int32) (M122 : mS) => (x122, M122)) else (lt2 (mF_becomes M 1 v) fun (x113 : Int32) (M113 : mS) => (x113, M113))) else (lt2 (mF_errs M (-1000000001)) fun (x129 : Int32) (M129 : mS) => (x129, M129)))))
def mF_person (M : mS) (km : Int32) (c : Int32) : Int32 × mS := (if (sF_in km 0 69) = 0 then (lt2 (mF_errs M (-1000000001)) fun (x21 : Int32) (M21 : mS) => (x21, M21)) else (if (mF_isCell M c) = 0 then (lt2 (mF_errs M (-1000000001)) fun (x21 : Int32) (M21 : mS) => (x21, M21)) else (if (M 1 8) = 8 then (lt2 (mF_errs M (-1000000004)) fun (x40 : Int32) (M40 : mS) => (x40, M40)) else (lt (mF_gets M (vn (M 1 8)) 0 (km / 10)) fun (M59 : mS) => lt (mF_gets M59 (vn (M 1 8)) 1 (km - km / 10 * 10)) fun (M69 : mS) => lt (mF_gets M69 (vn (M 1 8)) 2 c) fun (M76 : mS) => lt (mF_gets M76 (vn (M 1 8)) 3 0) fun (M83 : mS) => lt (mU M83 1 8 ((M83 1 8) + 1)) fun (M96 : mS) => (nI (vn (M 1 8)), M96)))))
def mF_lead (M : mS) (q : Int32) (what : Int32) (v : Int32) : Int32 × mS := (lt ((if what = 0 then (mF_isCell M v) else (if what = 1 then (if (sF_in v (-1) 1) = 0 then 0 else 1) else 0)) : Int32) fun (y31 : Int32) => (if (mF_isPerson M q) = 0 then (lt2 (mF_errs M (-1000000001)) fun (x67 : Int32) (M67 : mS) => (x67, M67)) else (if y31 = 0 then (lt2 (mF_errs M (-1000000001)) fun (x67 : Int32) (M67 : mS) => (x67, M67)) else (lt2 (mF_becomes M (((32 + (4 * (vn q))) + 2) + (vn what)) v) fun (x58 : Int32) (M58 : mS) => (x58, M58)))))
def mF_become (M : mS) (q : Int32) (km : Int32) : Int32 × mS := (if (mF_isPerson M q) = 0 then (lt2 (mF_errs M (-1000000001)) fun (x21 : Int32) (M21 : mS) => (x21, M21)) else (if (sF_in km 0 69) = 0 then (lt2 (mF_errs M (-1000000001)) fun (x21 : Int32) (M21 : mS) => (x21, M21)) else (lt (mF_gets M (vn q) 1 (km - km / 10 * 10)) fun (M32 : mS) => lt2 (mF_becomes M32 (32 + (4 * (vn q))) (km / 10)) fun (x46 : Int32) (M46 : mS) => (x46, M46))))
def mF_as_L32 (kind : Int32) : Nat → Int32 → Int32
  | 0, v3_32 => v3_32
  | f + 1, v3_32 => (if v3_32 < 0 then v3_32 else (if v3_32 = kind then v3_32 else (lt (sF_above v3_32) fun (x45 : Int32) => (mF_as_L32 kind f x45))))
theorem mF_as_L32_s (kind : Int32) (f : Nat) (v3_32 : Int32) : mF_as_L32 kind (f + 1) v3_32 = (if v3_32 < 0 then v3_32 else (if v3_32 = kind then v3_32 else (lt (sF_above v3_32) fun (x45 : Int32) => (mF_as_L32 kind f x45)))) := rfl
def mF_as (M : mS) (q : Int32) (kind : Int32) : Int32 × mS := (if (mF_isPerson M q) = 0 then (lt2 (mF_errs M (-1000000001)) fun (x21 : Int32) (M21 : mS) => (x21, M21)) else (if (sF_in kind 0 6) = 0 then (lt2 (mF_errs M (-1000000001)) fun (x21 : Int32) (M21 : mS) => (x21, M21)) else (lt (mF_its M (vn q) 0) fun (x31 : Int32) => (lt (mF_as_L32 kind 8 x31) fun (v3_32x : Int32) => (if 0 ≤ v3_32x then ((mF_its M (vn q) 1), M) else (lt2 (mF_errs M (-1000000005)) fun (x56 : Int32) (M56 : mS) => (x56, M56)))))))
def mF_counts (M : mS) (q : Nat) : Int32 := (if (mF_its M q 0) = 1 then 4 else (if (mF_its M q 0) = 2 then 1 else (if (mF_its M q 0) = 3 then 0 else (if (mF_its M q 0) = 4 then 4 else (if (mF_its M q 0) = 5 then (1 + ((mF_its M q 1) - (mF_its M q 1) / 2 * 2)) else 2)))))
def mF_seed (M : mS) (v : Int32) : Int32 × mS := (lt (M 1 2) fun (x6 : Int32) => lt (mU M 1 2 v) fun (M13 : mS) => (x6, M13))
def mF_ran (M : mS) (b : Int32) : mS := (lt ((if 40 ≤ (M 0 24) then M else (lt (mU M 13 (vn (M 0 24)) b) fun (M18 : mS) => lt (mU M18 0 24 ((M18 0 24) + 1)) fun (M26 : mS) => M26)) : mS) fun (M29 : mS) => M29)
def mF_trace (M : mS) (i : Int32) : Int32 × mS := (if (sF_in i 0 ((M 0 24) - 1)) = 0 then (lt2 (mF_errs M (-1000000002)) fun (x26 : Int32) (M26 : mS) => (x26, M26)) else ((M 13 (vn i)), M))
def mF_sheet_L93 (s : Int32) (M89 : mS) : Nat → mS
  | 0 => M89
  | k93 + 1 => lt (mF_sheet_L93 s M89 k93) fun (M93 : mS) => (lt (mU M93 10 ((40 * (vn s)) + k93) 0) fun (M112 : mS) => M112)
theorem mF_sheet_L93_0 (s : Int32) (M89 : mS) : mF_sheet_L93 s M89 0 = M89 := rfl
theorem mF_sheet_L93_s (s : Int32) (M89 : mS) (k93 : Nat) : mF_sheet_L93 s M89 (k93 + 1) = lt (mF_sheet_L93 s M89 k93) fun (M93 : mS) => (lt (mU M93 10 ((40 * (vn s)) + k93) 0) fun (M112 : mS) => M112) := rfl
def mF_sheet_J68 (M : mS) (s : Int32) (b : Int32) (n : Int32) : Int32 × mS := (lt (mU M 8 (vn s) b) fun (M74 : mS) => (lt ((if b = 0 then 0 else n) : Int32) fun (y89 : Int32) => (lt (mU M74 9 (vn s) y89) fun (M89 : mS) => (lt (mF_sheet_L93 s M89 40) fun (M93x : mS) => (1, M93x)))))
def mF_sheet_J51 (M : mS) (s : Int32) (b : Int32) (n : Int32) : Int32 × mS := (if b = 0 then (mF_sheet_J68 M s b n) else (if n ≤ 40 then (mF_sheet_J68 M s b n) else (lt2 (mF_errs M (-1000000001)) fun (x64 : Int32) (M64 : mS) => (x64, M64))))
def mF_sheet_J36 (M : mS) (s : Int32) (b : Int32) (n : Int32) : Int32 × mS := (if b = 0 then (mF_sheet_J51 M s b n) else (if 0 ≤ n then (mF_sheet_J51 M s b n) else (lt2 (mF_errs M (-1000000003)) fun (x47 : Int32) (M47 : mS) => (x47, M47))))
def mF_sheet (M : mS) (s : Int32) (b : Int32) (n : Int32) : Int32 × mS := (if (sF_isSheet s) = 0 then (lt2 (mF_errs M (-1000000001)) fun (x32 : Int32) (M32 : mS) => (x32, M32)) else (if b = 0 then (mF_sheet_J36 M s b n) else (if b = 8 then (mF_sheet_J36 M s b n) else (if b = 16 then (mF_sheet_J36 M s b n) else (if b = 32 then (mF_sheet_J36 M s b n) else (lt2 (mF_errs M (-1000000001)) fun (x32 : Int32) (M32 : mS) => (x32, M32)))))))
def mF_put (M : mS) (s : Int32) (i : Int32) (v : Int32) : Int32 × mS := (if (sF_isSheet s) = 0 then (lt2 (mF_errs M (-1000000001)) fun (x10 : Int32) (M10 : mS) => (x10, M10)) else (if (M 8 (vn s)) = 0 then (lt2 (mF_errs M (-1000000002)) fun (x26 : Int32) (M26 : mS) => (x26, M26)) else (if (sF_in i 0 ((M 9 (vn s)) - 1)) = 0 then (lt2 (mF_errs M (-1000000001)) fun (x49 : Int32) (M49 : mS) => (x49, M49)) else (lt (mU M 10 ((40 * (vn s)) + (vn i)) (sF_narrow (M 8 (vn s)) v)) fun (M73 : mS) => (1, M73)))))
def mF_image (M : mS) : Int32 × mS := (lt (mF_moveAll_1_2 M) fun (M9 : mS) => lt (mU M9 0 4 1) fun (M14 : mS) => lt (mU M14 0 5 ((M14 0 5) + 1)) fun (M24 : mS) => ((M24 0 5), M24))
def mF_restore (M : mS) : Int32 × mS := (if (M 0 4) = 0 then (lt2 (mF_errs M (-1000000002)) fun (x10 : Int32) (M10 : mS) => (x10, M10)) else (lt (mF_moveAll_2_1 M) fun (M23 : mS) => ((M23 1 0), M23)))
def mF_tell (M : mS) (v : Int32) : Int32 × mS := (if (M 1 5) = 20 then (lt2 (mF_errs M (-1000000004)) fun (x14 : Int32) (M14 : mS) => (x14, M14)) else (lt (mU M 1 (114 + (vn (M 1 5))) v) fun (M32 : mS) => lt (mU M32 1 5 ((M32 1 5) + 1)) fun (M42 : mS) => ((M42 1 5), M42)))
def mF_count (M : mS) (what : Int32) : Int32 × mS := (if what = 0 then ((M 1 3), M) else (if what = 1 then ((M 1 8), M) else (if what = 2 then ((M 1 0), M) else (if what = 3 then ((M 1 9), M) else (if what = 4 then ((M 1 10), M) else (if what = 5 then ((M 1 1), M) else (if what = 6 then ((M 1 11), M) else (if what = 7 then ((mF_grains M), M) else (if what = 8 then ((M 1 4), M) else (if what = 9 then ((M 1 5), M) else (if what = 10 then ((M 0 24), M) else (if what = 11 then ((M 1 2), M) else (lt2 (mF_errs M (-1000000001)) fun (x151 : Int32) (M151 : mS) => (x151, M151))))))))))))))
def mF_told (M : mS) (k : Int32) : Int32 × mS := (if (sF_in k 1 5) = 0 then (lt2 (mF_errs M (-1000000001)) fun (x21 : Int32) (M21 : mS) => (x21, M21)) else ((M 5 (vn k)), M))
