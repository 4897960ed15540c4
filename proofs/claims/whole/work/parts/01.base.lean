/-! CoercionDesk: the relation and the pure pictures -/
def co_neg (a : Nat → Int32) : Nat → Int32 := fun i => -(a i)
/-- every blame is 0 to 9 -/
def co_Lab (a : Nat → Int32) : Prop := ∀ i : Nat, ¬ a i < 0 ∧ a i ≤ 9
def co_dom (t : Int32) : Int32 := (t - 3) / 3
def co_rng (t : Int32) : Int32 := (t - 3) - (t - 3) / 3 * 3
def co_eq (a b : Int32) : Int32 := if a = b then 1 else if a = 0 then 1 else if b = 0 then 1 else 0
def co_isT (t : Int32) : Int32 := if t < 0 then 0 else if 11 < t then 0 else 1
def co_ag (s t : Int32) : Int32 :=
  if co_isT s = 0 then 0 else if co_isT t = 0 then 0
  else if s < 3 then co_eq s t else if t < 3 then co_eq s t
  else if co_eq (co_dom s) (co_dom t) = 0 then 0 else co_eq (co_rng s) (co_rng t)
def co_T (t : Int32) : Prop := t = 0 ∨ t = 1 ∨ t = 2 ∨ t = 3 ∨ t = 4 ∨ t = 5 ∨ t = 6 ∨ t = 7 ∨ t = 8 ∨ t = 9 ∨ t = 10 ∨ t = 11
def co_F (t : Int32) : Prop := t = 3 ∨ t = 4 ∨ t = 5 ∨ t = 6 ∨ t = 7 ∨ t = 8 ∨ t = 9 ∨ t = 10 ∨ t = 11
def co_6 (t : Int32) : Prop := t = 0 ∨ t = 1 ∨ t = 2 ∨ t = 3 ∨ t = 4 ∨ t = 5
def co_3 (t : Int32) : Prop := t = 0 ∨ t = 1 ∨ t = 2
/-- a value: its kind and its type fit -/
def co_Fit (sort value typed : Int32) : Prop :=
  (sort = 0 ∧ (typed = 0 ∨ typed = 1)) ∨ (sort = 1 ∧ (typed = 0 ∨ typed = 2)) ∨ (sort = 2 ∧ (typed = 0 ∨ co_F typed) ∧ co_6 value)
def co_Val (vt vk vr so sort value typed : Int32) : Prop :=
  (so = 0 ∧ vt = -100 ∧ vk = -100 ∧ vr = 0) ∨ (¬ so = 0 ∧ vt = typed ∧ vk = sort ∧ vr = value ∧ co_Fit sort value typed)
def co_Res (lk lr called kr yr : Int32) : Prop :=
  (called = 0 ∧ lk = -100 ∧ lr = 0) ∨ (¬ called = 0 ∧ lk = kr ∧ lr = yr)
/-- the same results' blames, the arguments' blames with the other sign; one value, one last result -/
def i_Rel (_ : Nat) (u : SX) (v : SY) : Prop :=
  ∃ (vt vk vr lk lr so sort value typed called kr yr : Int32) (ar out : Nat → Int32),
    u = (vt, vk, vr, lk, lr, co_neg ar, out) ∧ v = (so, sort, value, typed, called, kr, yr, ar, out) ∧
    co_Val vt vk vr so sort value typed ∧ co_Res lk lr called kr yr ∧ co_Lab ar ∧ co_Lab out
theorem i_up {k : Nat} {u : SX} {v : SY} (h : i_Rel k u v) : i_Rel (k + 3) u v := h
theorem co_m0 : -(0 : Int32) = 0 := by decide
theorem co_neg0 : (fun _ => 0) = co_neg (fun _ => 0) := by funext j; exact co_m0.symm
theorem co_lab0 : co_Lab (fun _ => 0) := by
  have a : ¬ (0 : Int32) < 0 := by decide
  have b : (0 : Int32) ≤ 9 := by decide
  exact fun _ => ⟨a, b⟩
theorem i_vc0 : wpX_init (fun u => wpY_init (fun v => i_Rel 0 u v)) := by
  unfold wpX_init wpX_dropValue wpX_forgetResult wpY_init
  dsimp only
  exact ⟨-100, -100, 0, -100, 0, 0, 0, 0, 0, 0, 0, 0, fun _ => 0, fun _ => 0, by rw [← co_neg0], rfl, Or.inl ⟨rfl, rfl, rfl, rfl⟩, Or.inl ⟨rfl, rfl, rfl⟩, co_lab0, co_lab0⟩
theorem co_12 (t : Int32) : 12 ≤ t ↔ 11 < t := by
  have a : (12 : Int32).toInt = 12 := by decide
  have b : (11 : Int32).toInt = 11 := by decide
  rw [Int32.le_iff_toInt_le, Int32.lt_iff_toInt_lt, a, b]
  omega
theorem co_9 (t : Int32) : t ≤ 9 ↔ ¬ 9 < t := Int32.not_lt.symm
theorem co_eT {t : Int32} (h0 : ¬ t < 0) (h1 : ¬ 11 < t) : co_T t := by
  have a : (0 : Int32).toInt = 0 := by decide
  have b : (11 : Int32).toInt = 11 := by decide
  have e : ∀ z : Int32, t.toInt = z.toInt → t = z := fun z hz => Int32.toInt_inj.mp hz
  rw [Int32.not_lt, Int32.le_iff_toInt_le] at h0 h1
  rw [a] at h0
  rw [b] at h1
  have hd : t.toInt = 0 ∨ t.toInt = 1 ∨ t.toInt = 2 ∨ t.toInt = 3 ∨ t.toInt = 4 ∨ t.toInt = 5 ∨ t.toInt = 6 ∨ t.toInt = 7 ∨ t.toInt = 8 ∨ t.toInt = 9 ∨ t.toInt = 10 ∨ t.toInt = 11 := by omega
  unfold co_T
  rcases hd with h | h | h | h | h | h | h | h | h | h | h | h
  · exact Or.inl <| e 0 (h.trans (by decide))
  · exact Or.inr <| Or.inl <| e 1 (h.trans (by decide))
  · exact Or.inr <| Or.inr <| Or.inl <| e 2 (h.trans (by decide))
  · exact Or.inr <| Or.inr <| Or.inr <| Or.inl <| e 3 (h.trans (by decide))
  · exact Or.inr <| Or.inr <| Or.inr <| Or.inr <| Or.inl <| e 4 (h.trans (by decide))
  · exact Or.inr <| Or.inr <| Or.inr <| Or.inr <| Or.inr <| Or.inl <| e 5 (h.trans (by decide))
  · exact Or.inr <| Or.inr <| Or.inr <| Or.inr <| Or.inr <| Or.inr <| Or.inl <| e 6 (h.trans (by decide))
  · exact Or.inr <| Or.inr <| Or.inr <| Or.inr <| Or.inr <| Or.inr <| Or.inr <| Or.inl <| e 7 (h.trans (by decide))
  · exact Or.inr <| Or.inr <| Or.inr <| Or.inr <| Or.inr <| Or.inr <| Or.inr <| Or.inr <| Or.inl <| e 8 (h.trans (by decide))
  · exact Or.inr <| Or.inr <| Or.inr <| Or.inr <| Or.inr <| Or.inr <| Or.inr <| Or.inr <| Or.inr <| Or.inl <| e 9 (h.trans (by decide))
  · exact Or.inr <| Or.inr <| Or.inr <| Or.inr <| Or.inr <| Or.inr <| Or.inr <| Or.inr <| Or.inr <| Or.inr <| Or.inl <| e 10 (h.trans (by decide))
  · exact Or.inr <| Or.inr <| Or.inr <| Or.inr <| Or.inr <| Or.inr <| Or.inr <| Or.inr <| Or.inr <| Or.inr <| Or.inr <| e 11 (h.trans (by decide))
theorem co_eF {t : Int32} (h0 : ¬ t < 3) (h1 : ¬ 11 < t) : co_F t := by
  have a : (3 : Int32).toInt = 3 := by decide
  have b : (11 : Int32).toInt = 11 := by decide
  have e : ∀ z : Int32, t.toInt = z.toInt → t = z := fun z hz => Int32.toInt_inj.mp hz
  rw [Int32.not_lt, Int32.le_iff_toInt_le] at h0 h1
  rw [a] at h0
  rw [b] at h1
  have hd : t.toInt = 3 ∨ t.toInt = 4 ∨ t.toInt = 5 ∨ t.toInt = 6 ∨ t.toInt = 7 ∨ t.toInt = 8 ∨ t.toInt = 9 ∨ t.toInt = 10 ∨ t.toInt = 11 := by omega
  unfold co_F
  rcases hd with h | h | h | h | h | h | h | h | h
  · exact Or.inl <| e 3 (h.trans (by decide))
  · exact Or.inr <| Or.inl <| e 4 (h.trans (by decide))
  · exact Or.inr <| Or.inr <| Or.inl <| e 5 (h.trans (by decide))
  · exact Or.inr <| Or.inr <| Or.inr <| Or.inl <| e 6 (h.trans (by decide))
  · exact Or.inr <| Or.inr <| Or.inr <| Or.inr <| Or.inl <| e 7 (h.trans (by decide))
  · exact Or.inr <| Or.inr <| Or.inr <| Or.inr <| Or.inr <| Or.inl <| e 8 (h.trans (by decide))
  · exact Or.inr <| Or.inr <| Or.inr <| Or.inr <| Or.inr <| Or.inr <| Or.inl <| e 9 (h.trans (by decide))
  · exact Or.inr <| Or.inr <| Or.inr <| Or.inr <| Or.inr <| Or.inr <| Or.inr <| Or.inl <| e 10 (h.trans (by decide))
  · exact Or.inr <| Or.inr <| Or.inr <| Or.inr <| Or.inr <| Or.inr <| Or.inr <| Or.inr <| e 11 (h.trans (by decide))
theorem co_e6 {t : Int32} (h0 : ¬ t < 0) (h1 : ¬ 5 < t) : co_6 t := by
  have a : (0 : Int32).toInt = 0 := by decide
  have b : (5 : Int32).toInt = 5 := by decide
  have e : ∀ z : Int32, t.toInt = z.toInt → t = z := fun z hz => Int32.toInt_inj.mp hz
  rw [Int32.not_lt, Int32.le_iff_toInt_le] at h0 h1
  rw [a] at h0
  rw [b] at h1
  have hd : t.toInt = 0 ∨ t.toInt = 1 ∨ t.toInt = 2 ∨ t.toInt = 3 ∨ t.toInt = 4 ∨ t.toInt = 5 := by omega
  unfold co_6
  rcases hd with h | h | h | h | h | h
  · exact Or.inl <| e 0 (h.trans (by decide))
  · exact Or.inr <| Or.inl <| e 1 (h.trans (by decide))
  · exact Or.inr <| Or.inr <| Or.inl <| e 2 (h.trans (by decide))
  · exact Or.inr <| Or.inr <| Or.inr <| Or.inl <| e 3 (h.trans (by decide))
  · exact Or.inr <| Or.inr <| Or.inr <| Or.inr <| Or.inl <| e 4 (h.trans (by decide))
  · exact Or.inr <| Or.inr <| Or.inr <| Or.inr <| Or.inr <| e 5 (h.trans (by decide))
theorem co_F_ge {t : Int32} (h : co_F t) : ¬ t < 3 := by
  rcases h with rfl | rfl | rfl | rfl | rfl | rfl | rfl | rfl | rfl <;> decide
theorem co_F_le {t : Int32} (h : co_F t) : ¬ 11 < t := by
  rcases h with rfl | rfl | rfl | rfl | rfl | rfl | rfl | rfl | rfl <;> decide
theorem co_F_dom {t : Int32} (h : co_F t) : co_3 (co_dom t) := by
  rcases h with rfl | rfl | rfl | rfl | rfl | rfl | rfl | rfl | rfl <;> simp [co_3, co_dom] <;> decide
theorem co_F_rng {t : Int32} (h : co_F t) : co_3 (co_rng t) := by
  rcases h with rfl | rfl | rfl | rfl | rfl | rfl | rfl | rfl | rfl <;> simp [co_3, co_rng] <;> decide
theorem co_eq01 (a b : Int32) : co_eq a b = 0 ∨ co_eq a b = 1 := by
  unfold co_eq; split
  · exact Or.inr rfl
  · split
    · exact Or.inr rfl
    · split
      · exact Or.inr rfl
      · exact Or.inl rfl
theorem co_eqNar (a b : Int32) : narrow .boolean (.int (co_eq a b)) = .int (co_eq a b) := by
  rcases co_eq01 a b with h | h <;> rw [h] <;> rfl
theorem co_eqself (a : Int32) : co_eq a a = 1 := by unfold co_eq; rw [if_pos rfl]
theorem co_ag_T {s t : Int32} (h : ¬ co_ag s t = 0) : co_T s ∧ co_T t := by
  unfold co_ag at h
  split at h
  · exact absurd rfl h
  · rename_i a
    split at h
    · exact absurd rfl h
    · rename_i b
      unfold co_isT at a b
      split at a
      · exact absurd rfl a
      · split at a
        · exact absurd rfl a
        · split at b
          · exact absurd rfl b
          · split at b
            · exact absurd rfl b
            · rename_i a0 a1 b0 b1
              exact ⟨co_eT a0 a1, co_eT b0 b1⟩
theorem co_upd_self (a : Nat → Int32) (k : Nat) : upd a k (a k) = a := by
  funext j; unfold upd; split
  · rename_i h; rw [h]
  · rfl
theorem co_upd_neg (a : Nat → Int32) (k : Nat) (l : Int32) : upd (co_neg a) k (-l) = co_neg (upd a k l) := by
  funext j; unfold upd co_neg; dsimp only; split <;> rfl
theorem co_upd_neg0 (a : Nat → Int32) (k : Nat) : upd (co_neg a) k 0 = co_neg (upd a k 0) := by
  have h := co_upd_neg a k 0
  rwa [co_m0] at h
theorem co_lab_upd {a : Nat → Int32} (h : co_Lab a) (k : Nat) {l : Int32} (h0 : ¬ l < 0) (h9 : l ≤ 9) : co_Lab (upd a k l) := by
  intro j; unfold upd; split
  · exact ⟨h0, h9⟩
  · exact h j
theorem co_le0 {a : Nat → Int32} (h : co_Lab a) (i : Nat) : a i ≤ 0 ↔ a i = 0 := by
  constructor
  · intro z; exact Int32.le_antisymm z (Int32.not_lt.mp (h i).1)
  · intro z; rw [z]; exact Int32.le_refl 0
theorem co_neg_eq (a : Nat → Int32) (i : Nat) : co_neg a i = 0 ↔ a i = 0 := by
  unfold co_neg
  constructor
  · intro z; have y := congrArg (fun x : Int32 => -x) z
    simpa using y
  · intro z; rw [z]; exact co_m0
