section
/-! CoercionDesk: the relation and the pure pictures -/
def co_neg (a : Nat → Int32) : Nat → Int32 := fun i => -(a i)
/-- every blame is 0 to 9 -/
def co_Lab (a : Nat → Int32) : Prop := ∀ i : Nat, ¬ a i < 0 ∧ a i ≤ 9
def co_dom (t : Int32) : Int32 := (t - 3) / 3
def co_rng (t : Int32) : Int32 := (t - 3) - (t - 3) / 3 * 3
def co_eq (a b : Int32) : Int32 := if a = b then 1 else if a = 0 then 1 else if b = 0 then 1 else 0
def co_isT (t : Int32) : Int32 := if t < 0 then 0 else if 11 < t then 0 else 1
def co_ag (s t : Int32) : Int32 :=
  if co_isT s = 0 then 0 else if co_isT t = 0 then 0
  else if s < 3 then co_eq s t else if t < 3 then co_eq s t
  else if co_eq (co_dom s) (co_dom t) = 0 then 0 else co_eq (co_rng s) (co_rng t)
def co_T (t : Int32) : Prop := t = 0 ∨ t = 1 ∨ t = 2 ∨ t = 3 ∨ t = 4 ∨ t = 5 ∨ t = 6 ∨ t = 7 ∨ t = 8 ∨ t = 9 ∨ t = 10 ∨ t = 11
def co_F (t : Int32) : Prop := t = 3 ∨ t = 4 ∨ t = 5 ∨ t = 6 ∨ t = 7 ∨ t = 8 ∨ t = 9 ∨ t = 10 ∨ t = 11
def co_6 (t : Int32) : Prop := t = 0 ∨ t = 1 ∨ t = 2 ∨ t = 3 ∨ t = 4 ∨ t = 5
def co_3 (t : Int32) : Prop := t = 0 ∨ t = 1 ∨ t = 2
/-- a value: its kind and its type fit -/
def co_Fit (sort value typed : Int32) : Prop :=
  (sort = 0 ∧ (typed = 0 ∨ typed = 1)) ∨ (sort = 1 ∧ (typed = 0 ∨ typed = 2)) ∨ (sort = 2 ∧ (typed = 0 ∨ co_F typed) ∧ co_6 value)
def co_Val (vt vk vr so sort value typed : Int32) : Prop :=
  (so = 0 ∧ vt = -100 ∧ vk = -100 ∧ vr = 0) ∨ (¬ so = 0 ∧ vt = typed ∧ vk = sort ∧ vr = value ∧ co_Fit sort value typed)
def co_Res (lk lr called kr yr : Int32) : Prop :=
  (called = 0 ∧ lk = -100 ∧ lr = 0) ∨ (¬ called = 0 ∧ lk = kr ∧ lr = yr)
/-- the same results' blames, the arguments' blames with the other sign; one value, one last result -/
def i_Rel (_ : Nat) (u : SX) (v : SY) : Prop :=
  ∃ (vt vk vr lk lr so sort value typed called kr yr : Int32) (ar out : Nat → Int32),
    u = (vt, vk, vr, lk, lr, co_neg ar, out) ∧ v = (so, sort, value, typed, called, kr, yr, ar, out) ∧
    co_Val vt vk vr so sort value typed ∧ co_Res lk lr called kr yr ∧ co_Lab ar ∧ co_Lab out
theorem i_up {k : Nat} {u : SX} {v : SY} (h : i_Rel k u v) : i_Rel (k + 3) u v := h
theorem co_m0 : -(0 : Int32) = 0 := by decide
theorem co_neg0 : (fun _ => 0) = co_neg (fun _ => 0) := by funext j; exact co_m0.symm
theorem co_lab0 : co_Lab (fun _ => 0) := by
  have a : ¬ (0 : Int32) < 0 := by decide
  have b : (0 : Int32) ≤ 9 := by decide
  exact fun _ => ⟨a, b⟩
theorem i_vc0 : wpX_init (fun u => wpY_init (fun v => i_Rel 0 u v)) := by
  unfold wpX_init wpX_dropValue wpX_forgetResult wpY_init
  dsimp only
  exact ⟨-100, -100, 0, -100, 0, 0, 0, 0, 0, 0, 0, 0, fun _ => 0, fun _ => 0, by rw [← co_neg0], rfl, Or.inl ⟨rfl, rfl, rfl, rfl⟩, Or.inl ⟨rfl, rfl, rfl⟩, co_lab0, co_lab0⟩
theorem co_12 (t : Int32) : 12 ≤ t ↔ 11 < t := by
  have a : (12 : Int32).toInt = 12 := by decide
  have b : (11 : Int32).toInt = 11 := by decide
  rw [Int32.le_iff_toInt_le, Int32.lt_iff_toInt_lt, a, b]
  omega
theorem co_9 (t : Int32) : t ≤ 9 ↔ ¬ 9 < t := Int32.not_lt.symm
theorem co_eT {t : Int32} (h0 : ¬ t < 0) (h1 : ¬ 11 < t) : co_T t := by
  have a : (0 : Int32).toInt = 0 := by decide
  have b : (11 : Int32).toInt = 11 := by decide
  have e : ∀ z : Int32, t.toInt = z.toInt → t = z := fun z hz => Int32.toInt_inj.mp hz
  rw [Int32.not_lt, Int32.le_iff_toInt_le] at h0 h1
  rw [a] at h0
  rw [b] at h1
  have hd : t.toInt = 0 ∨ t.toInt = 1 ∨ t.toInt = 2 ∨ t.toInt = 3 ∨ t.toInt = 4 ∨ t.toInt = 5 ∨ t.toInt = 6 ∨ t.toInt = 7 ∨ t.toInt = 8 ∨ t.toInt = 9 ∨ t.toInt = 10 ∨ t.toInt = 11 := by omega
  unfold co_T
  rcases hd with h | h | h | h | h | h | h | h | h | h | h | h
  · exact Or.inl <| e 0 (h.trans (by decide))
  · exact Or.inr <| Or.inl <| e 1 (h.trans (by decide))
  · exact Or.inr <| Or.inr <| Or.inl <| e 2 (h.trans (by decide))
  · exact Or.inr <| Or.inr <| Or.inr <| Or.inl <| e 3 (h.trans (by decide))
  · exact Or.inr <| Or.inr <| Or.inr <| Or.inr <| Or.inl <| e 4 (h.trans (by decide))
  · exact Or.inr <| Or.inr <| Or.inr <| Or.inr <| Or.inr <| Or.inl <| e 5 (h.trans (by decide))
  · exact Or.inr <| Or.inr <| Or.inr <| Or.inr <| Or.inr <| Or.inr <| Or.inl <| e 6 (h.trans (by decide))
  · exact Or.inr <| Or.inr <| Or.inr <| Or.inr <| Or.inr <| Or.inr <| Or.inr <| Or.inl <| e 7 (h.trans (by decide))
  · exact Or.inr <| Or.inr <| Or.inr <| Or.inr <| Or.inr <| Or.inr <| Or.inr <| Or.inr <| Or.inl <| e 8 (h.trans (by decide))
  · exact Or.inr <| Or.inr <| Or.inr <| Or.inr <| Or.inr <| Or.inr <| Or.inr <| Or.inr <| Or.inr <| Or.inl <| e 9 (h.trans (by decide))
  · exact Or.inr <| Or.inr <| Or.inr <| Or.inr <| Or.inr <| Or.inr <| Or.inr <| Or.inr <| Or.inr <| Or.inr <| Or.inl <| e 10 (h.trans (by decide))
  · exact Or.inr <| Or.inr <| Or.inr <| Or.inr <| Or.inr <| Or.inr <| Or.inr <| Or.inr <| Or.inr <| Or.inr <| Or.inr <| e 11 (h.trans (by decide))
theorem co_eF {t : Int32} (h0 : ¬ t < 3) (h1 : ¬ 11 < t) : co_F t := by
  have a : (3 : Int32).toInt = 3 := by decide
  have b : (11 : Int32).toInt = 11 := by decide
  have e : ∀ z : Int32, t.toInt = z.toInt → t = z := fun z hz => Int32.toInt_inj.mp hz
  rw [Int32.not_lt, Int32.le_iff_toInt_le] at h0 h1
  rw [a] at h0
  rw [b] at h1
  have hd : t.toInt = 3 ∨ t.toInt = 4 ∨ t.toInt = 5 ∨ t.toInt = 6 ∨ t.toInt = 7 ∨ t.toInt = 8 ∨ t.toInt = 9 ∨ t.toInt = 10 ∨ t.toInt = 11 := by omega
  unfold co_F
  rcases hd with h | h | h | h | h | h | h | h | h
  · exact Or.inl <| e 3 (h.trans (by decide))
  · exact Or.inr <| Or.inl <| e 4 (h.trans (by decide))
  · exact Or.inr <| Or.inr <| Or.inl <| e 5 (h.trans (by decide))
  · exact Or.inr <| Or.inr <| Or.inr <| Or.inl <| e 6 (h.trans (by decide))
  · exact Or.inr <| Or.inr <| Or.inr <| Or.inr <| Or.inl <| e 7 (h.trans (by decide))
  · exact Or.inr <| Or.inr <| Or.inr <| Or.inr <| Or.inr <| Or.inl <| e 8 (h.trans (by decide))
  · exact Or.inr <| Or.inr <| Or.inr <| Or.inr <| Or.inr <| Or.inr <| Or.inl <| e 9 (h.trans (by decide))
  · exact Or.inr <| Or.inr <| Or.inr <| Or.inr <| Or.inr <| Or.inr <| Or.inr <| Or.inl <| e 10 (h.trans (by decide))
  · exact Or.inr <| Or.inr <| Or.inr <| Or.inr <| Or.inr <| Or.inr <| Or.inr <| Or.inr <| e 11 (h.trans (by decide))
theorem co_e6 {t : Int32} (h0 : ¬ t < 0) (h1 : ¬ 5 < t) : co_6 t := by
  have a : (0 : Int32).toInt = 0 := by decide
  have b : (5 : Int32).toInt = 5 := by decide
  have e : ∀ z : Int32, t.toInt = z.toInt → t = z := fun z hz => Int32.toInt_inj.mp hz
  rw [Int32.not_lt, Int32.le_iff_toInt_le] at h0 h1
  rw [a] at h0
  rw [b] at h1
  have hd : t.toInt = 0 ∨ t.toInt = 1 ∨ t.toInt = 2 ∨ t.toInt = 3 ∨ t.toInt = 4 ∨ t.toInt = 5 := by omega
  unfold co_6
  rcases hd with h | h | h | h | h | h
  · exact Or.inl <| e 0 (h.trans (by decide))
  · exact Or.inr <| Or.inl <| e 1 (h.trans (by decide))
  · exact Or.inr <| Or.inr <| Or.inl <| e 2 (h.trans (by decide))
  · exact Or.inr <| Or.inr <| Or.inr <| Or.inl <| e 3 (h.trans (by decide))
  · exact Or.inr <| Or.inr <| Or.inr <| Or.inr <| Or.inl <| e 4 (h.trans (by decide))
  · exact Or.inr <| Or.inr <| Or.inr <| Or.inr <| Or.inr <| e 5 (h.trans (by decide))
theorem co_F_ge {t : Int32} (h : co_F t) : ¬ t < 3 := by
  rcases h with rfl | rfl | rfl | rfl | rfl | rfl | rfl | rfl | rfl <;> decide
theorem co_F_le {t : Int32} (h : co_F t) : ¬ 11 < t := by
  rcases h with rfl | rfl | rfl | rfl | rfl | rfl | rfl | rfl | rfl <;> decide
theorem co_F_dom {t : Int32} (h : co_F t) : co_3 (co_dom t) := by
  rcases h with rfl | rfl | rfl | rfl | rfl | rfl | rfl | rfl | rfl <;> simp [co_3, co_dom] <;> decide
theorem co_F_rng {t : Int32} (h : co_F t) : co_3 (co_rng t) := by
  rcases h with rfl | rfl | rfl | rfl | rfl | rfl | rfl | rfl | rfl <;> simp [co_3, co_rng] <;> decide
theorem co_eq01 (a b : Int32) : co_eq a b = 0 ∨ co_eq a b = 1 := by
  unfold co_eq; split
  · exact Or.inr rfl
  · split
    · exact Or.inr rfl
    · split
      · exact Or.inr rfl
      · exact Or.inl rfl
theorem co_eqNar (a b : Int32) : narrow .boolean (.int (co_eq a b)) = .int (co_eq a b) := by
  rcases co_eq01 a b with h | h <;> rw [h] <;> rfl
theorem co_eqself (a : Int32) : co_eq a a = 1 := by unfold co_eq; rw [if_pos rfl]
theorem co_ag_T {s t : Int32} (h : ¬ co_ag s t = 0) : co_T s ∧ co_T t := by
  unfold co_ag at h
  split at h
  · exact absurd rfl h
  · rename_i a
    split at h
    · exact absurd rfl h
    · rename_i b
      unfold co_isT at a b
      split at a
      · exact absurd rfl a
      · split at a
        · exact absurd rfl a
        · split at b
          · exact absurd rfl b
          · split at b
            · exact absurd rfl b
            · rename_i a0 a1 b0 b1
              exact ⟨co_eT a0 a1, co_eT b0 b1⟩
theorem co_upd_self (a : Nat → Int32) (k : Nat) : upd a k (a k) = a := by
  funext j; unfold upd; split
  · rename_i h; rw [h]
  · rfl
theorem co_upd_neg (a : Nat → Int32) (k : Nat) (l : Int32) : upd (co_neg a) k (-l) = co_neg (upd a k l) := by
  funext j; unfold upd co_neg; dsimp only; split <;> rfl
theorem co_upd_neg0 (a : Nat → Int32) (k : Nat) : upd (co_neg a) k 0 = co_neg (upd a k 0) := by
  have h := co_upd_neg a k 0
  rwa [co_m0] at h
theorem co_lab_upd {a : Nat → Int32} (h : co_Lab a) (k : Nat) {l : Int32} (h0 : ¬ l < 0) (h9 : l ≤ 9) : co_Lab (upd a k l) := by
  intro j; unfold upd; split
  · exact ⟨h0, h9⟩
  · exact h j
theorem co_le0 {a : Nat → Int32} (h : co_Lab a) (i : Nat) : a i ≤ 0 ↔ a i = 0 := by
  constructor
  · intro z; exact Int32.le_antisymm z (Int32.not_lt.mp (h i).1)
  · intro z; rw [z]; exact Int32.le_refl 0
theorem co_neg_eq (a : Nat → Int32) (i : Nat) : co_neg a i = 0 ↔ a i = 0 := by
  unfold co_neg
  constructor
  · intro z; have y := congrArg (fun x : Int32 => -x) z
    simpa using y
  · intro z; rw [z]; exact co_m0
end
section
/-! agree, agreeing, and the methods that only read a field -/
theorem co_ite {c : Prop} [Decidable c] {a b : Int32} {post : Int32 → Prop} (h : post (if c then a else b)) : (c → post a) ∧ (¬ c → post b) := by
  by_cases z : c
  · rw [if_pos z] at h; exact br_t z h
  · rw [if_neg z] at h; exact br_f z h
theorem co_Xeq {post : Int32 → Prop} {a b : Int32} (h : post (co_eq a b)) : wpX_equalOrAny post a b := by
  unfold co_eq at h
  exact ⟨(co_ite h).1, fun z => ⟨(co_ite ((co_ite h).2 z)).1, fun z2 => co_ite ((co_ite ((co_ite h).2 z)).2 z2)⟩⟩
theorem co_Yeq {post : Int32 → Prop} {u : SY} {a b : Int32} (h : post (co_eq a b)) : wpY_simple post u a b := by
  obtain ⟨f1, f2, f3, f4, f5, f6, f7, ar, out⟩ := u
  unfold co_eq at h
  exact ⟨(co_ite h).1, fun z => ⟨(co_ite ((co_ite h).2 z)).1, fun z2 => co_ite ((co_ite ((co_ite h).2 z)).2 z2)⟩⟩
theorem co_XisT {post : Int32 → Prop} {t : Int32} (h : post (co_isT t)) : wpX_isType post t := by
  unfold co_isT at h
  unfold wpX_isType
  rw [co_12]
  exact ⟨(co_ite h).1, fun z => co_ite ((co_ite h).2 z)⟩
theorem co_YisT {post : Int32 → Prop} {u : SY} {t : Int32} (h : post (co_isT t)) : wpY_isType post u t := by
  obtain ⟨f1, f2, f3, f4, f5, f6, f7, ar, out⟩ := u
  unfold co_isT at h
  exact ⟨(co_ite h).1, fun z => co_ite ((co_ite h).2 z)⟩
def co_isF (t : Int32) : Int32 := if t < 3 then 0 else if 11 < t then 0 else 1
theorem co_XisF {post : Int32 → Prop} {t : Int32} (h : post (co_isF t)) : wpX_isFunctionType post t := by
  unfold co_isF at h
  unfold wpX_isFunctionType
  rw [co_12]
  exact ⟨(co_ite h).1, fun z => co_ite ((co_ite h).2 z)⟩
theorem co_isF0 {t : Int32} (h : t < 3) : co_isF t = 0 := if_pos h
theorem co_isF1 {t : Int32} (h : ¬ t < 3) (h1 : ¬ co_isT t = 0) : ¬ co_isF t = 0 := by
  unfold co_isF
  unfold co_isT at h1
  rw [if_neg h]
  split at h1
  · exact absurd rfl h1
  · exact h1
theorem co_Xdom {post : Int32 → Prop} {t : Int32} (h : post (co_dom t)) : wpX_domainOf post t := ⟨by decide, h⟩
theorem co_Xrng {post : Int32 → Prop} {t : Int32} (h : post (co_rng t)) : wpX_rangeOf post t := ⟨by decide, h⟩
theorem co_Ydom {post : Int32 → Prop} {u : SY} {t : Int32} (h : post (co_dom t)) : wpY_from post u t := by
  obtain ⟨f1, f2, f3, f4, f5, f6, f7, ar, out⟩ := u
  exact ⟨by decide, h⟩
theorem co_Yrng {post : Int32 → Prop} {u : SY} {t : Int32} (h : post (co_rng t)) : wpY_into post u t := by
  obtain ⟨f1, f2, f3, f4, f5, f6, f7, ar, out⟩ := u
  exact ⟨by decide, h⟩
theorem co_eq1 {a b : Int32} (h : ¬ co_eq a b = 0) : co_eq a b = 1 := (co_eq01 a b).resolve_left h
theorem co_Xagree {post : Int32 → Prop} {u : SX} {s t : Int32} (h : post (co_ag s t)) : wpX_agree post u s t := by
  obtain ⟨vt, vk, vr, lk, lr, ab, rb⟩ := u
  unfold wpX_agree
  dsimp only
  unfold co_ag at h
  refine co_XisT (br_c (fun c1 => ?_) (fun c1 => ?_))
  · rwa [if_pos c1] at h
  rw [if_neg c1] at h
  refine co_XisT (br_c (fun c2 => ?_) (fun c2 => ?_))
  · rwa [if_pos c2] at h
  rw [if_neg c2] at h
  by_cases c3 : s < 3
  · rw [if_pos c3] at h
    exact co_XisF (br_t (co_isF0 c3) (co_Xeq ⟨co_eqNar _ _, h⟩))
  rw [if_neg c3] at h
  refine co_XisF (br_f (co_isF1 c3 c1) ?_)
  by_cases c4 : t < 3
  · rw [if_pos c4] at h
    exact co_XisF (br_t (co_isF0 c4) (co_Xeq ⟨co_eqNar _ _, h⟩))
  rw [if_neg c4] at h
  refine co_XisF (br_f (co_isF1 c4 c2) ?_)
  refine co_Xdom (co_Xdom (co_Xrng (co_Xrng (co_Xeq (br_c (fun c5 => ?_) (fun c5 => ?_))))))
  · rw [if_pos c5] at h
    exact ⟨rfl, h⟩
  rw [if_neg c5] at h
  refine co_Xeq (br_c (fun c6 => ?_) (fun c6 => ?_))
  · rw [c6] at h
    exact ⟨rfl, h⟩
  · rw [co_eq1 c6] at h
    exact ⟨rfl, h⟩
theorem co_Yagree {post : Int32 → Prop} {u : SY} {s t : Int32} (h : post (co_ag s t)) : wpY_agree post u s t := by
  obtain ⟨f1, f2, f3, f4, f5, f6, f7, ar, out⟩ := u
  unfold wpY_agree
  dsimp only
  unfold co_ag at h
  refine co_YisT (br_c (fun c1 => ?_) (fun c1 => ?_))
  · rwa [if_pos c1] at h
  rw [if_neg c1] at h
  refine co_YisT (br_c (fun c2 => ?_) (fun c2 => ?_))
  · rwa [if_pos c2] at h
  rw [if_neg c2] at h
  refine co_Yeq (br_c (fun c => ?_) (fun c => ?_))
  · refine br_c (fun c3 => ?_) (fun c3 => ?_)
    · rw [if_pos c3, c] at h
      exact h
    rw [if_neg c3] at h
    refine br_c (fun c4 => ?_) (fun c4 => ?_)
    · rw [if_pos c4, c] at h
      exact h
    rw [if_neg c4] at h
    refine co_Ydom (co_Ydom (co_Yeq (br_c (fun c5 => ?_) (fun c5 => ?_))))
    · rwa [if_pos c5] at h
    rw [if_neg c5] at h
    refine co_Yrng (co_Yrng (co_Yeq (br_c (fun c6 => ?_) (fun c6 => ?_))))
    · rw [c6] at h
      exact h
    · rw [co_eq1 c6] at h
      exact h
  · by_cases c3 : s < 3
    · rw [if_pos c3, co_eq1 c] at h
      exact h
    rw [if_neg c3] at h
    by_cases c4 : t < 3
    · rw [if_pos c4, co_eq1 c] at h
      exact h
    rw [if_neg c4] at h
    have e : s = t := by
      unfold co_eq at c
      split at c
      · assumption
      · split at c
        · rename_i z
          rw [z] at c3
          exact absurd (by decide) c3
        · split at c
          · rename_i z
            rw [z] at c4
            exact absurd (by decide) c4
          · exact absurd rfl c
    rw [e, co_eqself, co_eqself, if_neg (by decide)] at h
    exact h
theorem co_scan (t vt vk vr lk lr : Int32) (ab rb : Nat → Int32) (f1 f2 f3 f4 f5 f6 f7 : Int32) (ar out : Nat → Int32) : ∀ (d j : Nat) (c : Int32), j + d = 12 → ∃ r : Int32,
    (∀ post : Int32 → Prop, post r → wX_agreeing_14 post t vt vk vr lk lr ab rb (d + 1) c (nI j)) ∧
    (∀ post : Int32 → Prop, ((co_isT t = 0 → post (-100)) ∧ (¬ co_isT t = 0 → post r)) → wY_agreeing_4 post t f1 f2 f3 f4 f5 f6 f7 ar out (d + 1) c (nI j)) := by
  have e12 : nI 12 = 12 := by decide +kernel
  intro d
  induction d with
  | zero =>
    intro j c hj
    have h : (12 : Int32) ≤ nI j := by rw [← e12]; exact nI_le (by omega) (by omega)
    exact ⟨c, fun _ hp => br_t h hp, fun _ hp => br_t h (co_YisT hp)⟩
  | succ d ih =>
    intro j c hj
    have h : ¬ (12 : Int32) ≤ nI j := by rw [← e12]; exact nI_ge (by omega) (by omega)
    by_cases z : co_ag (nI j) t = 0
    · obtain ⟨r, hX, hY⟩ := ih (j + 1) c (by omega)
      refine ⟨r, fun post hp => br_f h (co_Xagree (br_t z fun y ey => ?_)), fun post hp => br_f h (co_Yagree (br_t z fun y ey => ?_))⟩
      · rw [ey, nI_1]; exact hX post hp
      · rw [ey, nI_1]; exact hY post hp
    · obtain ⟨r, hX, hY⟩ := ih (j + 1) (c + 1) (by omega)
      refine ⟨r, fun post hp => br_f h (co_Xagree (br_f z fun x ex y ey => ?_)), fun post hp => br_f h (co_Yagree (br_f z fun x ex y ey => ?_))⟩
      · rw [ex, ey, nI_1]; exact hX post hp
      · rw [ex, ey, nI_1]; exact hY post hp
theorem i_vc_agreeing {k : Nat} {u : SX} {v : SY} (I : i_Rel k u v) (hk : k + 3 ≤ 1536) (v1 : Int32) : wpX_agreeing (fun r => wpY_agreeing (fun r' => r' = r ∧ i_Rel (k + 3) u v) v v1) u v1 := by
  have J := i_up I
  obtain ⟨vt, vk, vr, lk, lr, ab, rb⟩ := u
  obtain ⟨f1, f2, f3, f4, f5, f6, f7, ar, out⟩ := v
  obtain ⟨r, hX, hY⟩ := co_scan v1 vt vk vr lk lr ab rb f1 f2 f3 f4 f5 f6 f7 ar out 12 0 0 rfl
  rw [nI_0] at hX hY
  unfold wpX_agreeing wpY_agreeing
  dsimp only
  refine co_XisT (br_c (fun c => ?_) (fun c => ?_))
  · exact ⟨_, hY _ (br_t c ⟨rfl, J⟩)⟩
  · exact ⟨_, hX _ ⟨_, hY _ (br_f c ⟨rfl, J⟩)⟩⟩
theorem i_vc_agree {k : Nat} {u : SX} {v : SY} (I : i_Rel k u v) (hk : k + 3 ≤ 1536) (v1 : Int32) (v2 : Int32) : wpX_agree (fun r => wpY_agree (fun r' => r' = r ∧ i_Rel (k + 3) u v) v v1 v2) u v1 v2 := co_Xagree (co_Yagree ⟨rfl, i_up I⟩)
end
section
/-! the methods that read a field -/
theorem i_vc_type {k : Nat} {u : SX} {v : SY} (I : i_Rel k u v) (hk : k + 3 ≤ 1536) : wpX_type (fun r => wpY_type (fun r' => r' = r ∧ i_Rel (k + 3) u v) v) u := by
  have J := i_up I
  obtain ⟨vt, vk, vr, lk, lr, so, sort, value, typed, called, kr, yr, ar, out, rfl, rfl, hV, hR, hA, hO⟩ := I
  unfold wpX_type wpY_type
  dsimp only
  rcases hV with ⟨h0, h1, h2, h3⟩ | ⟨h0, h1, h2, h3, _⟩
  · exact br_t h0 ⟨h1.symm, J⟩
  · exact br_f h0 ⟨h1.symm, J⟩
theorem i_vc_kind {k : Nat} {u : SX} {v : SY} (I : i_Rel k u v) (hk : k + 3 ≤ 1536) : wpX_kind (fun r => wpY_kind (fun r' => r' = r ∧ i_Rel (k + 3) u v) v) u := by
  have J := i_up I
  obtain ⟨vt, vk, vr, lk, lr, so, sort, value, typed, called, kr, yr, ar, out, rfl, rfl, hV, hR, hA, hO⟩ := I
  unfold wpX_kind wpY_kind
  dsimp only
  rcases hV with ⟨h0, h1, h2, h3⟩ | ⟨h0, h1, h2, h3, _⟩
  · exact br_t h0 ⟨h2.symm, J⟩
  · exact br_f h0 ⟨h2.symm, J⟩
theorem i_vc_raw {k : Nat} {u : SX} {v : SY} (I : i_Rel k u v) (hk : k + 3 ≤ 1536) : wpX_raw (fun r => wpY_raw (fun r' => r' = r ∧ i_Rel (k + 3) u v) v) u := by
  have J := i_up I
  obtain ⟨vt, vk, vr, lk, lr, so, sort, value, typed, called, kr, yr, ar, out, rfl, rfl, hV, hR, hA, hO⟩ := I
  unfold wpX_raw wpY_raw
  dsimp only
  rcases hV with ⟨h0, h1, h2, h3⟩ | ⟨h0, h1, h2, h3, _⟩
  · exact br_t h0 ⟨h3.symm, J⟩
  · exact br_f h0 ⟨h3.symm, J⟩
theorem i_vc_resultKind {k : Nat} {u : SX} {v : SY} (I : i_Rel k u v) (hk : k + 3 ≤ 1536) : wpX_resultKind (fun r => wpY_resultKind (fun r' => r' = r ∧ i_Rel (k + 3) u v) v) u := by
  have J := i_up I
  obtain ⟨vt, vk, vr, lk, lr, so, sort, value, typed, called, kr, yr, ar, out, rfl, rfl, hV, hR, hA, hO⟩ := I
  unfold wpX_resultKind wpY_resultKind
  dsimp only
  rcases hR with ⟨h0, h1, h2⟩ | ⟨h0, h1, h2⟩
  · exact br_t h0 ⟨h1.symm, J⟩
  · exact br_f h0 ⟨h1.symm, J⟩
theorem i_vc_result {k : Nat} {u : SX} {v : SY} (I : i_Rel k u v) (hk : k + 3 ≤ 1536) : wpX_result (fun r => wpY_result (fun r' => r' = r ∧ i_Rel (k + 3) u v) v) u := by
  have J := i_up I
  obtain ⟨vt, vk, vr, lk, lr, so, sort, value, typed, called, kr, yr, ar, out, rfl, rfl, hV, hR, hA, hO⟩ := I
  unfold wpX_result wpY_result
  dsimp only
  rcases hR with ⟨h0, h1, h2⟩ | ⟨h0, h1, h2⟩
  · exact br_t h0 ⟨h2.symm, J⟩
  · exact br_f h0 ⟨h2.symm, J⟩
end
section
/-! set -/
theorem co_i0 : vp_in 0 2 := vp_in_iff.mpr (by decide)
theorem co_i1 : vp_in 1 2 := vp_in_iff.mpr (by decide)
theorem co_n0 : ¬ (2 : Int32) ≤ 0 := by decide
theorem co_n1 : ¬ (2 : Int32) ≤ 1 := by decide
theorem co_n2 : (2 : Int32) ≤ 2 := by decide
theorem co_p0 : (0 : Int32) + 1 = 1 := by decide
theorem co_p1 : (1 : Int32) + 1 = 2 := by decide
theorem co_c0 : (0 : Int32).toNatClampNeg = 0 := by decide
theorem co_c1 : (1 : Int32).toNatClampNeg = 1 := by decide
theorem co_10 : ¬ (1 : Int32) = 0 := by decide
def co_z (a : Nat → Int32) : Nat → Int32 := upd (upd a 0 0) 1 0
theorem co_z_neg (a : Nat → Int32) : co_z (co_neg a) = co_neg (co_z a) := by
  unfold co_z; rw [co_upd_neg0, co_upd_neg0]
theorem co_z_lab {a : Nat → Int32} (h : co_Lab a) : co_Lab (co_z a) :=
  co_lab_upd (co_lab_upd h 0 (by decide) (by decide)) 1 (by decide) (by decide)
theorem co_Xunwrap {post : SX → Prop} {vt vk vr lk lr : Int32} {ab rb : Nat → Int32} (h : post (vt, vk, vr, lk, lr, co_z ab, co_z rb)) : wpX_unwrap post (vt, vk, vr, lk, lr, ab, rb) := by
  refine ⟨3, br_f co_n0 ⟨co_i0, nm_r (e' := upd ab 0 0) (by rw [co_c0]) ⟨co_i0, nm_r (e' := upd rb 0 0) (by rw [co_c0]) (nm_r co_p0 ?_)⟩⟩⟩
  refine br_f co_n1 ⟨co_i1, nm_r (e' := co_z ab) (by rw [co_c1]; rfl) ⟨co_i1, nm_r (e' := co_z rb) (by rw [co_c1]; rfl) (nm_r co_p1 ?_)⟩⟩
  exact br_t co_n2 h
theorem co_Yzero {post : Int32 → SY → Prop} {f1 f2 f3 f4 f5 f6 f7 : Int32} {ar out : Nat → Int32} (h : post f4 (f1, f2, f3, f4, 0, f6, f7, co_z ar, co_z out)) : ∃ n : Nat, wY_set_89 post f1 f2 f3 f4 f5 f6 f7 n 0 ar out := by
  refine ⟨3, br_f co_n0 ⟨co_i0, nm_r (e' := upd ar 0 0) (by rw [co_c0]) ⟨co_i0, nm_r (e' := upd out 0 0) (by rw [co_c0]) (nm_r co_p0 ?_)⟩⟩⟩
  refine br_f co_n1 ⟨co_i1, nm_r (e' := co_z ar) (by rw [co_c1]; rfl) ⟨co_i1, nm_r (e' := co_z out) (by rw [co_c1]; rfl) (nm_r co_p1 ?_)⟩⟩
  exact br_t co_n2 h
theorem co_XsetOk {post : Int32 → SX → Prop} {vt vk vr lk lr p0 p1 T : Int32} {ab rb : Nat → Int32}
    (hS : ∀ P : Int32 → Prop, P 1 → wpX_isSettable P p0 p1) (hT : ∀ P : Int32 → Prop, P T → wpX_ownType P p0 p1)
    (h : post T (T, p0, p1, -100, 0, co_z ab, co_z rb)) : wpX_set post (vt, vk, vr, lk, lr, ab, rb) p0 p1 := by
  unfold wpX_set
  dsimp only
  refine hS _ (br_f co_10 (hT _ (co_Xunwrap ?_)))
  exact h
theorem co_XsetBad {post : Int32 → SX → Prop} {vt vk vr lk lr p0 p1 : Int32} {ab rb : Nat → Int32}
    (hS : ∀ P : Int32 → Prop, P 0 → wpX_isSettable P p0 p1)
    (h : post (-100) (vt, vk, vr, lk, lr, ab, rb)) : wpX_set post (vt, vk, vr, lk, lr, ab, rb) p0 p1 := by
  unfold wpX_set
  dsimp only
  exact hS _ (br_t rfl h)
theorem co_Y36 {post : Int32 → SY → Prop} {x1 x2 f1 f2 f3 f4 f5 f6 f7 : Int32} {ar out : Nat → Int32} (h : post (-100) (f1, f2, f3, f4, f5, f6, f7, ar, out)) : wY_set_36 post x1 x2 f1 f2 f3 f4 f5 f6 f7 ar out := br_t rfl h
def co_own (n : Int32) : Int32 := if n = 0 then 7 else if n = 1 then 3 else if n = 2 then 11 else if n = 3 then 8 else if n = 4 then 4 else 10
theorem co_ownF {n : Int32} (h : co_6 n) : co_F (co_own n) := by
  unfold co_F
  rcases h with rfl | rfl | rfl | rfl | rfl | rfl <;> decide
theorem co_Xown {P : Int32 → Prop} {n : Int32} (hn : co_6 n) (h : P (co_own n)) : wpX_ownFunctionType P n := by
  rcases hn with rfl | rfl | rfl | rfl | rfl | rfl <;> simpa [wpX_ownFunctionType, wpX_functionType, co_own] using h
theorem co_Yown {P : Int32 → Prop} {u : SY} {n : Int32} (hn : co_6 n) (h : P (co_own n)) : wpY_own P u n := by
  obtain ⟨f1, f2, f3, f4, f5, f6, f7, ar, out⟩ := u
  rcases hn with rfl | rfl | rfl | rfl | rfl | rfl <;> simpa [wpY_own, wpY_arrow, co_own] using h
theorem co_YsetOk {post : Int32 → SY → Prop} {x1 x2 f1 f2 f3 f4 f5 f6 f7 T : Int32} {ar out : Nat → Int32}
    (hT : (x1 = 0 ∧ T = 1) ∨ (x1 = 1 ∧ T = 2) ∨ (x1 = 2 ∧ co_6 x2 ∧ T = co_own x2))
    (h : post T (1, x1, x2, T, 0, f6, f7, co_z ar, co_z out)) : wY_set_32 post x1 x2 f1 f2 f3 f4 f5 f6 f7 ar out := by
  refine br_f co_10 ?_
  rcases hT with ⟨e, rfl⟩ | ⟨e, rfl⟩ | ⟨e, hn, rfl⟩
  · exact br_t e (co_Yzero h)
  · have n : ¬ x1 = 0 := by rw [e]; decide
    exact br_f n (br_t e (co_Yzero h))
  · have n : ¬ x1 = 0 := by rw [e]; decide
    have n1 : ¬ x1 = 1 := by rw [e]; decide
    exact br_f n (br_f n1 (co_Yown hn (co_Yzero h)))
theorem co_mkV {k : Nat} {so sort value typed lk lr called kr yr : Int32} {ar out : Nat → Int32} (h0 : ¬ so = 0) (hF : co_Fit sort value typed) (hR : co_Res lk lr called kr yr) (hA : co_Lab ar) (hO : co_Lab out) :
    i_Rel k (typed, sort, value, lk, lr, co_neg ar, out) (so, sort, value, typed, called, kr, yr, ar, out) :=
  ⟨_, _, _, _, _, _, _, _, _, _, _, _, _, _, rfl, rfl, Or.inr ⟨h0, rfl, rfl, rfl, hF⟩, hR, hA, hO⟩
theorem co_mk0 {k : Nat} {sort value typed lk lr called kr yr : Int32} {ar out : Nat → Int32} (hR : co_Res lk lr called kr yr) (hA : co_Lab ar) (hO : co_Lab out) :
    i_Rel k (-100, -100, 0, lk, lr, co_neg ar, out) (0, sort, value, typed, called, kr, yr, ar, out) :=
  ⟨_, _, _, _, _, _, _, _, _, _, _, _, _, _, rfl, rfl, Or.inl ⟨rfl, rfl, rfl, rfl⟩, hR, hA, hO⟩
theorem co_setJ {k : Nat} {x1 x2 T kr yr : Int32} {ar out : Nat → Int32} (hF : co_Fit x1 x2 T) (hA : co_Lab ar) (hO : co_Lab out) :
    i_Rel k (T, x1, x2, -100, 0, co_z (co_neg ar), co_z out) (1, x1, x2, T, 0, kr, yr, co_z ar, co_z out) := by
  rw [co_z_neg]
  exact co_mkV co_10 hF (Or.inl ⟨rfl, rfl, rfl⟩) (co_z_lab hA) (co_z_lab hO)
theorem i_vc_set {k : Nat} {u : SX} {v : SY} (I : i_Rel k u v) (hk : k + 3 ≤ 1536) (v1 : Int32) (v2 : Int32) : wpX_set (fun r u' => wpY_set (fun r' v' => r' = r ∧ i_Rel (k + 3) u' v') v v1 v2) u v1 v2 := by
  have J := i_up I
  obtain ⟨vt, vk, vr, lk, lr, so, sort, value, typed, called, kr, yr, ar, out, rfl, rfl, hV, hR, hA, hO⟩ := I
  by_cases a0 : v1 = 0
  · have a2 : ¬ v1 = 2 := by rw [a0]; decide
    exact co_XsetOk (T := 1) (fun P h => br_f a2 (br_t a0 ⟨rfl, h⟩)) (fun P h => br_t a0 h)
      (br_t a0 (co_YsetOk (Or.inl ⟨a0, rfl⟩) ⟨rfl, co_setJ (Or.inl ⟨a0, Or.inr rfl⟩) hA hO⟩))
  by_cases a1 : v1 = 1
  · have a2 : ¬ v1 = 2 := by rw [a1]; decide
    by_cases b0 : v2 = 0
    · exact co_XsetOk (T := 2) (fun P h => br_f a2 (br_f a0 (br_t a1 (br_t b0 ⟨rfl, h⟩)))) (fun P h => br_f a0 (br_t a1 h))
        (br_f a0 (br_t a1 (br_t b0 (co_YsetOk (Or.inr (Or.inl ⟨a1, rfl⟩)) ⟨rfl, co_setJ (Or.inr (Or.inl ⟨a1, Or.inr rfl⟩)) hA hO⟩))))
    by_cases b1 : v2 = 1
    · exact co_XsetOk (T := 2) (fun P h => br_f a2 (br_f a0 (br_t a1 (br_f b0 (br_t b1 ⟨rfl, h⟩))))) (fun P h => br_f a0 (br_t a1 h))
        (br_f a0 (br_t a1 (br_f b0 (br_t b1 (co_YsetOk (Or.inr (Or.inl ⟨a1, rfl⟩)) ⟨rfl, co_setJ (Or.inr (Or.inl ⟨a1, Or.inr rfl⟩)) hA hO⟩)))))
    · exact co_XsetBad (fun P h => br_f a2 (br_f a0 (br_t a1 (br_f b0 (br_f b1 ⟨rfl, h⟩)))))
        (br_f a0 (br_t a1 (br_f b0 (br_f b1 (br_f a2 (co_Y36 ⟨rfl, J⟩))))))
  by_cases a2 : v1 = 2
  · by_cases c0 : v2 < 0
    · exact co_XsetBad (fun P h => br_t a2 (br_t c0 h)) (br_f a0 (br_f a1 (br_t a2 (br_t c0 (co_Y36 ⟨rfl, J⟩)))))
    by_cases c5 : 5 < v2
    · exact co_XsetBad (fun P h => br_t a2 (br_f c0 (br_t c5 h))) (br_f a0 (br_f a1 (br_t a2 (br_f c0 (br_t c5 (co_Y36 ⟨rfl, J⟩))))))
    have h6 : co_6 v2 := co_e6 c0 c5
    exact co_XsetOk (T := co_own v2) (fun P h => br_t a2 (br_f c0 (br_f c5 h))) (fun P h => br_f a0 (br_f a1 (co_Xown h6 h)))
      (br_f a0 (br_f a1 (br_t a2 (br_f c0 (br_f c5 (co_YsetOk (Or.inr (Or.inr ⟨a2, h6, rfl⟩)) ⟨rfl, co_setJ (Or.inr (Or.inr ⟨a2, Or.inr (co_ownF h6), h6⟩)) hA hO⟩))))))
  · exact co_XsetBad (fun P h => br_f a2 (br_f a0 (br_f a1 ⟨rfl, h⟩))) (br_f a0 (br_f a1 (br_f a2 (co_Y36 ⟨rfl, J⟩))))
end
section
/-! wrap: both sides against one picture -/
def co_kd (q : Int32) : Int32 := if q = 1 then 0 else if q = 2 then 1 else 2
def co_cf (p q k : Int32) : Int32 := if p = 0 then (if q = 0 then 0 else (if co_kd q = k then 0 else 1)) else 0
theorem co_Xkd {post : Int32 → Prop} {q : Int32} (h : post (co_kd q)) : wpX_kindOfType post q := by
  unfold co_kd at h
  exact ⟨(co_ite h).1, fun z => co_ite ((co_ite h).2 z)⟩
theorem co_Xcf {post : Int32 → Prop} {p q k : Int32} (h : post (co_cf p q k)) : wpX_castFails post p q k := by
  unfold co_cf at h
  exact ⟨fun z => ⟨(co_ite ((co_ite h).1 z)).1, fun y => co_Xkd (co_ite ((co_ite ((co_ite h).1 z)).2 y))⟩, (co_ite h).2⟩
def co_bf (g k : Int32) : Int32 := if g ≤ 0 then 0 else if g = k + 1 then 0 else 1
/-- the arguments' blames behind a wrapping that asks for q (0: for nothing) -/
def co_in (q l : Int32) (a : Nat → Int32) : Nat → Int32 := if q = 1 then upd a 1 l else if q = 2 then upd a 0 l else a
/-- the results' blames behind a wrapping that gives g (0: anything) -/
def co_out (g l : Int32) (b : Nat → Int32) : Nat → Int32 :=
  if g = 1 then (if b 1 = 0 then upd b 1 l else b) else if g = 2 then (if b 0 = 0 then upd b 0 l else b) else b
theorem co_in_lab {q l : Int32} {a : Nat → Int32} (h : co_Lab a) (h0 : ¬ l < 0) (h9 : l ≤ 9) : co_Lab (co_in q l a) := by
  unfold co_in
  split
  · exact co_lab_upd h 1 h0 h9
  · split
    · exact co_lab_upd h 0 h0 h9
    · exact h
theorem co_out_lab {g l : Int32} {b : Nat → Int32} (h : co_Lab b) (h0 : ¬ l < 0) (h9 : l ≤ 9) : co_Lab (co_out g l b) := by
  unfold co_out
  split
  · split
    · exact co_lab_upd h 1 h0 h9
    · exact h
  · split
    · split
      · exact co_lab_upd h 0 h0 h9
      · exact h
    · exact h
def co_pick (p q : Int32) : Int32 := if p = 0 then q else 0
theorem co_pick3 {p q : Int32} (h : co_3 q) : co_3 (co_pick p q) := by
  unfold co_pick
  split
  · exact h
  · exact Or.inl rfl
/-- X's step of the loop of wrap -/
theorem co_Xstep {post : SX → Prop} {l p q r w vt vk vr lk lr : Int32} {n : Nat} {i : Int32} {a b : Nat → Int32} (hi : vp_in i 2) (h2 : ¬ 2 ≤ i)
    (h : wX_wrap_27 post l p q r w vt vk vr lk lr n (i + 1) (if co_cf p q i = 0 then a else upd a i.toNatClampNeg (-l))
      (if b i.toNatClampNeg = 0 then (if co_cf r w i = 0 then b else upd b i.toNatClampNeg l) else b)) :
    wX_wrap_27 post l p q r w vt vk vr lk lr (n + 1) i a b := by
  refine br_f h2 (co_Xcf (br_c (fun c => ?_) (fun c => ?_)))
  · rw [if_pos c] at h
    refine ⟨hi, br_c (fun d => ?_) (fun d => nm_e ?_)⟩
    · rw [if_pos d] at h
      refine co_Xcf (br_c (fun e => nm_e ?_) (fun e => ⟨hi, nm_e (nm_e ?_)⟩))
      · rwa [if_pos e] at h
      · rwa [if_neg e] at h
    · rwa [if_neg d] at h
  · rw [if_neg c] at h
    refine ⟨hi, nm_e ⟨hi, br_c (fun d => ?_) (fun d => nm_e ?_)⟩⟩
    · rw [if_pos d] at h
      refine co_Xcf (br_c (fun e => nm_e ?_) (fun e => ⟨hi, nm_e (nm_e ?_)⟩))
      · rwa [if_pos e] at h
      · rwa [if_neg e] at h
    · rwa [if_neg d] at h
theorem co_inX {p q l : Int32} (a : Nat → Int32) (hq : co_3 q) :
    (if co_cf p q 1 = 0 then (if co_cf p q 0 = 0 then co_neg a else upd (co_neg a) 0 (-l)) else upd (if co_cf p q 0 = 0 then co_neg a else upd (co_neg a) 0 (-l)) 1 (-l)) = co_neg (co_in (co_pick p q) l a) := by
  by_cases hp : p = 0
  · rcases hq with rfl | rfl | rfl <;> simp [hp, co_cf, co_kd, co_in, co_pick, co_upd_neg]
  · simp [hp, co_cf, co_in, co_pick]
theorem co_outX {r w l : Int32} (b : Nat → Int32) (hw : co_3 w) {b0 : Nat → Int32} (e : b0 = if b 0 = 0 then (if co_cf r w 0 = 0 then b else upd b 0 l) else b) :
    (if b0 1 = 0 then (if co_cf r w 1 = 0 then b0 else upd b0 1 l) else b0) = co_out (co_pick r w) l b := by
  by_cases hr : r = 0
  · rcases hw with rfl | rfl | rfl
    · have e' : b0 = b := by rw [e]; simp [hr, co_cf]
      rw [e']; simp [hr, co_cf, co_out, co_pick]
    · have e' : b0 = b := by rw [e]; simp [hr, co_cf, co_kd]
      rw [e']; simp [hr, co_cf, co_kd, co_out, co_pick]
    · have e' : b0 = if b 0 = 0 then upd b 0 l else b := by rw [e]; simp [hr, co_cf, co_kd]
      have e'' : co_cf r 2 1 = 0 := by simp [hr, co_cf, co_kd]
      rw [e'', if_pos rfl, ite_self, e']; simp [hr, co_out, co_pick]
  · have e' : b0 = b := by rw [e]; simp [hr, co_cf]
    rw [e']; simp [hr, co_cf, co_out, co_pick]
def co_ask (s t : Int32) : Int32 := co_pick (co_dom t) (co_dom s)
def co_giv (s t : Int32) : Int32 := co_pick (co_rng s) (co_rng t)
theorem co_Xwrap {post : SX → Prop} {vt vk vr lk lr s t l : Int32} {ar rb : Nat → Int32} (hs : co_F s) (ht : co_F t)
    (h : post (vt, vk, vr, lk, lr, co_neg (co_in (co_ask s t) l ar), co_out (co_giv s t) l rb)) :
    wpX_wrap post (vt, vk, vr, lk, lr, co_neg ar, rb) s t l := by
  unfold wpX_wrap
  dsimp only
  refine co_Xdom (co_Xdom (co_Xrng (co_Xrng ⟨3, ?_⟩)))
  refine co_Xstep co_i0 co_n0 ?_
  rw [co_p0, co_c0]
  refine co_Xstep co_i1 co_n1 ?_
  rw [co_p1, co_c1]
  refine br_t co_n2 ?_
  rw [co_inX ar (co_F_dom hs), co_outX rb (co_F_rng ht) rfl]
  exact h
/-- Y's step of the loop of wrap -/
theorem co_Y78 {post : SY → Prop} {J : Int32 → (Nat → Int32) → (Nat → Int32) → Prop} {l q g i z0 f1 f2 f3 f4 f5 f6 f7 : Int32} {a b : Nat → Int32} (hi : vp_in i 2)
    (h : J (i + 1) (upd a i.toNatClampNeg z0) (if co_bf g i = 0 then b else if b i.toNatClampNeg = 0 then upd b i.toNatClampNeg l else b)) :
    wY_wrap_78 post J l q g i z0 i f1 f2 f3 f4 f5 f6 f7 a b := by
  refine ⟨hi, nm_e (br_c (fun c => ?_) (fun c => ?_))⟩
  · have e : co_bf g i = 0 := if_pos c
    rw [if_pos e] at h
    exact ⟨hi, hi, nm_r (co_upd_self b _) (nm_e h)⟩
  · refine br_c (fun d => ?_) (fun d => ?_)
    · have e : co_bf g i = 0 := by unfold co_bf; rw [if_neg c, if_pos d]
      rw [if_pos e] at h
      exact ⟨hi, hi, nm_r (co_upd_self b _) (nm_e h)⟩
    · have e : ¬ co_bf g i = 0 := by unfold co_bf; rw [if_neg c, if_neg d]; decide
      rw [if_neg e] at h
      refine ⟨hi, br_c (fun f => ?_) (fun f => ?_)⟩
      · rw [if_pos f] at h
        exact ⟨hi, nm_e (nm_e h)⟩
      · rw [if_neg f] at h
        exact ⟨hi, hi, nm_r (co_upd_self b _) (nm_e h)⟩
theorem co_Ystep {post : SY → Prop} {l q g f1 f2 f3 f4 f5 f6 f7 : Int32} {n : Nat} {i : Int32} {a b : Nat → Int32} (hi : vp_in i 2) (h2 : ¬ 2 ≤ i)
    (h : wY_wrap_41 post l q g f1 f2 f3 f4 f5 f6 f7 n (i + 1) (if co_bf q i = 0 then a else upd a i.toNatClampNeg l)
      (if co_bf g i = 0 then b else if b i.toNatClampNeg = 0 then upd b i.toNatClampNeg l else b)) :
    wY_wrap_41 post l q g f1 f2 f3 f4 f5 f6 f7 (n + 1) i a b := by
  refine br_f h2 (br_c (fun c => ?_) (fun c => ?_))
  · have e : co_bf q i = 0 := if_pos c
    rw [if_pos e] at h
    refine ⟨hi, co_Y78 hi ?_⟩
    rw [co_upd_self]
    exact h
  · refine br_c (fun d => ?_) (fun d => ?_)
    · have e : co_bf q i = 0 := by unfold co_bf; rw [if_neg c, if_pos d]
      rw [if_pos e] at h
      refine ⟨hi, co_Y78 hi ?_⟩
      rw [co_upd_self]
      exact h
    · have e : ¬ co_bf q i = 0 := by unfold co_bf; rw [if_neg c, if_neg d]; decide
      rw [if_neg e] at h
      exact co_Y78 hi h
theorem co_b00 : co_bf 0 0 = 0 := by decide
theorem co_b10 : co_bf 1 0 = 0 := by decide
theorem co_b20 : co_bf 2 0 = 1 := by decide
theorem co_b01 : co_bf 0 1 = 0 := by decide
theorem co_b11 : co_bf 1 1 = 1 := by decide
theorem co_b21 : co_bf 2 1 = 0 := by decide
theorem co_inY {q l : Int32} (a : Nat → Int32) (hq : co_3 q) :
    (if co_bf q 1 = 0 then (if co_bf q 0 = 0 then a else upd a 0 l) else upd (if co_bf q 0 = 0 then a else upd a 0 l) 1 l) = co_in q l a := by
  rcases hq with rfl | rfl | rfl <;> simp [co_b00, co_b10, co_b20, co_b01, co_b11, co_b21, co_in]
theorem co_outY {g l : Int32} (b : Nat → Int32) (hg : co_3 g) {b0 : Nat → Int32} (e : b0 = if co_bf g 0 = 0 then b else if b 0 = 0 then upd b 0 l else b) :
    (if co_bf g 1 = 0 then b0 else if b0 1 = 0 then upd b0 1 l else b0) = co_out g l b := by
  rcases hg with rfl | rfl | rfl
  · rw [co_b01, if_pos rfl, e, co_b00, if_pos rfl]; simp [co_out]
  · have e' : b0 = b := by rw [e, co_b10, if_pos rfl]
    rw [co_b11, e']; simp [co_out]
  · rw [co_b21, if_pos rfl, e, co_b20]; simp [co_out]
theorem co_Yloop {post : SY → Prop} {l q g f1 f2 f3 f4 f5 f6 f7 : Int32} {a b : Nat → Int32} (hq : co_3 q) (hg : co_3 g)
    (h : post (f1, f2, f3, f4, f5, f6, f7, co_in q l a, co_out g l b)) :
    ∃ n : Nat, wY_wrap_41 post l q g f1 f2 f3 f4 f5 f6 f7 n 0 a b := by
  refine ⟨3, ?_⟩
  refine co_Ystep co_i0 co_n0 ?_
  rw [co_p0, co_c0]
  refine co_Ystep co_i1 co_n1 ?_
  rw [co_p1, co_c1]
  refine br_t co_n2 ?_
  rw [co_inY a hq, co_outY b hg rfl]
  exact h
theorem co_Ywrap17 {post : SY → Prop} {f1 f2 f3 f4 f5 f6 f7 s t l q : Int32} {a b : Nat → Int32} (hq : co_3 q) (ht : co_F t)
    (h : post (f1, f2, f3, f4, f5, f6, f7, co_in q l a, co_out (co_giv s t) l b)) :
    wY_wrap_17 post s t l q f1 f2 f3 f4 f5 f6 f7 a b := by
  refine co_Yrng (br_c (fun c => ?_) (fun c => ?_))
  · have e : co_giv s t = co_rng t := if_pos c
    rw [e] at h
    exact co_Yrng (co_Yloop hq (co_F_rng ht) h)
  · have e : co_giv s t = 0 := if_neg c
    rw [e] at h
    exact co_Yloop hq (Or.inl rfl) h
theorem co_Ywrap {post : SY → Prop} {f1 f2 f3 f4 f5 f6 f7 s t l : Int32} {a b : Nat → Int32} (hs : co_F s) (ht : co_F t)
    (h : post (f1, f2, f3, f4, f5, f6, f7, co_in (co_ask s t) l a, co_out (co_giv s t) l b)) :
    wpY_wrap post (f1, f2, f3, f4, f5, f6, f7, a, b) s t l := by
  unfold wpY_wrap
  dsimp only
  refine co_Ydom (br_c (fun c => ?_) (fun c => ?_))
  · have e : co_ask s t = co_dom s := if_pos c
    rw [e] at h
    exact co_Ydom (co_Ywrap17 (co_F_dom hs) ht h)
  · have e : co_ask s t = 0 := if_neg c
    rw [e] at h
    exact co_Ywrap17 (Or.inl rfl) ht h
end
section
/-! cast -/
theorem co_3F : co_F 3 := Or.inl rfl
theorem co_Y78f {post : Int32 → SY → Prop} {t l f1 f2 f3 f4 f5 f6 f7 : Int32} {a b : Nat → Int32} (h : post l (0, f2, f3, f4, f5, f6, f7, a, b)) : wY_cast_78 post t l f1 f2 f3 f4 f5 f6 f7 a b := br_f co_10 h
theorem co_Yarrow {P : Int32 → Prop} {u : SY} (h : P 3) : wpY_arrow P u 0 0 := by
  obtain ⟨f1, f2, f3, f4, f5, f6, f7, ar, out⟩ := u
  have e : (3 : Int32) + 3 * 0 + 0 = 3 := by decide
  unfold wpY_arrow
  dsimp only
  rw [e]
  exact h
theorem co_Y82a {post : Int32 → SY → Prop} {t l f1 f2 f3 typed f5 f6 f7 : Int32} {a b : Nat → Int32} (h1 : typed < 3) (h2 : t < 3)
    (h : post 0 (f1, f2, f3, t, f5, f6, f7, a, b)) : wY_cast_82 post t l f1 f2 f3 typed f5 f6 f7 a b :=
  br_t rfl (br_c (fun _ => br_t h2 (br_t h1 (br_t h1 h))) (fun _ => br_t h1 (br_t h1 h)))
theorem co_Y144 {post : Int32 → SY → Prop} {t l s z f1 f2 f3 f4 f5 f6 f7 : Int32} {a b : Nat → Int32} (hs : co_F s) (hz : co_F z)
    (h : post 0 (f1, f2, f3, t, f5, f6, f7, co_in (co_ask s z) l a, co_out (co_giv s z) l b)) : wY_cast_144 post t l s z f1 f2 f3 f4 f5 f6 f7 a b := by
  unfold wY_cast_144
  exact br_f (co_F_ge hs) (br_f (co_F_ge hz) (co_Ywrap hs hz h))
theorem co_Y82b {post : Int32 → SY → Prop} {t l f1 f2 f3 f5 f6 f7 : Int32} {a b : Nat → Int32} (ht : co_F t)
    (h : post 0 (f1, f2, f3, t, f5, f6, f7, co_in (co_ask 3 t) l a, co_out (co_giv 3 t) l b)) : wY_cast_82 post t l f1 f2 f3 0 f5 f6 f7 a b := by
  have e : (0 : Int32) < 3 := by decide
  unfold wY_cast_82 wY_cast_83
  exact br_t rfl (br_t rfl (br_f (co_F_ge ht) (co_Yarrow (br_t e (co_Y144 co_3F ht h)))))
theorem co_F_n0 {t : Int32} (h : co_F t) : ¬ t = 0 := by
  rcases h with rfl | rfl | rfl | rfl | rfl | rfl | rfl | rfl | rfl <;> decide
theorem co_F_n1 {t : Int32} (h : co_F t) : ¬ t = 1 := by
  rcases h with rfl | rfl | rfl | rfl | rfl | rfl | rfl | rfl | rfl <;> decide
theorem co_F_n2 {t : Int32} (h : co_F t) : ¬ t = 2 := by
  rcases h with rfl | rfl | rfl | rfl | rfl | rfl | rfl | rfl | rfl <;> decide
theorem co_Y82c {post : Int32 → SY → Prop} {l f1 f2 f3 s f5 f6 f7 : Int32} {a b : Nat → Int32} (hs : co_F s)
    (h : post 0 (f1, f2, f3, 0, f5, f6, f7, co_in (co_ask s 3) l a, co_out (co_giv s 3) l b)) : wY_cast_82 post 0 l f1 f2 f3 s f5 f6 f7 a b := by
  unfold wY_cast_82 wY_cast_83 wY_cast_116 wY_cast_120
  exact br_t rfl (br_f (co_F_n0 hs) (br_f (co_F_ge hs) (br_t rfl (co_Yarrow (co_Y144 hs co_3F h)))))
theorem co_Y82d {post : Int32 → SY → Prop} {t l f1 f2 f3 s f5 f6 f7 : Int32} {a b : Nat → Int32} (hs : co_F s) (ht : co_F t)
    (h : post 0 (f1, f2, f3, t, f5, f6, f7, co_in (co_ask s t) l a, co_out (co_giv s t) l b)) : wY_cast_82 post t l f1 f2 f3 s f5 f6 f7 a b := by
  unfold wY_cast_82 wY_cast_83 wY_cast_116 wY_cast_120 wY_cast_143
  exact br_t rfl (br_f (co_F_n0 hs) (br_f (co_F_ge hs) (br_f (co_F_n0 ht) (co_Y144 hs ht h))))
/-- a cast from ANY: the value's kind is the type's, or the type is ANY -/
theorem co_YC0 {post : Int32 → SY → Prop} {t l f1 sort f3 f5 f6 f7 : Int32} {a b : Nat → Int32} (h0 : ¬ f1 = 0) (l1 : ¬ l < 1) (l9 : ¬ 9 < l) (g : ¬ co_ag 0 t = 0) (hc : t = 0 ∨ co_kd t = sort)
    (h : wY_cast_82 post t l f1 sort f3 0 f5 f6 f7 a b) (hT : co_T t) : wpY_cast post (f1, sort, f3, 0, f5, f6, f7, a, b) t l := by
  have k1 : t = 1 → sort = 0 := by
    intro e; rcases hc with c | c
    · rw [c] at e; exact absurd e (by decide)
    · rw [e] at c; exact c.symm
  have k2 : t = 2 → sort = 1 := by
    intro e; rcases hc with c | c
    · rw [c] at e; exact absurd e (by decide)
    · rw [e] at c; exact c.symm
  have k3 : ¬ t < 3 → sort = 2 := by
    intro e
    rcases hT with z | z | z | z
    · rw [z] at e; exact absurd (by decide) e
    · rw [z] at e; exact absurd (by decide) e
    · rw [z] at e; exact absurd (by decide) e
    · have z : co_F t := z
      rcases hc with c | c
      · exact absurd c (co_F_n0 z)
      · rw [← c]
        unfold co_kd
        rw [if_neg (co_F_n1 z), if_neg (co_F_n2 z)]
  have h65 : wY_cast_65 post t l f1 sort f3 0 f5 f6 f7 a b := br_c (fun _ => h) (fun e => br_t (k3 e) h)
  have h52 : wY_cast_52 post t l f1 sort f3 0 f5 f6 f7 a b := br_c (fun e => br_t (k2 e) h65) (fun _ => h65)
  unfold wpY_cast
  dsimp only
  exact br_f h0 (br_f l1 (br_f l9 (co_Yagree (br_f g (br_t rfl (br_c (fun e => br_t (k1 e) h52) (fun _ => h52)))))))
/-- a cast from ANY that fails -/
theorem co_YCf {post : Int32 → SY → Prop} {t l f1 sort f3 f5 f6 f7 : Int32} {a b : Nat → Int32} (h0 : ¬ f1 = 0) (l1 : ¬ l < 1) (l9 : ¬ 9 < l) (g : ¬ co_ag 0 t = 0) (t0 : ¬ t = 0) (hc : ¬ co_kd t = sort)
    (h : post l (0, sort, f3, 0, f5, f6, f7, a, b)) (hT : co_T t) : wpY_cast post (f1, sort, f3, 0, f5, f6, f7, a, b) t l := by
  have k1 : t = 1 → ¬ sort = 0 := by
    intro e z; rw [e, z] at hc; exact hc rfl
  have k2 : t = 2 → ¬ sort = 1 := by
    intro e z; rw [e, z] at hc; exact hc rfl
  have h78 : wY_cast_78 post t l f1 sort f3 0 f5 f6 f7 a b := co_Y78f h
  unfold wpY_cast
  dsimp only
  refine br_f h0 (br_f l1 (br_f l9 (co_Yagree (br_f g (br_t rfl (br_c (fun e => br_f (k1 e) h78) (fun n1 => br_c (fun e => br_f (k2 e) h78) (fun n2 => ?_))))))))
  have z : co_F t := by
    rcases hT with z | z | z | z
    · exact absurd z t0
    · exact absurd z n1
    · exact absurd z n2
    · exact z
  have k3 : ¬ sort = 2 := by
    intro y
    apply hc
    rw [y]
    unfold co_kd
    rw [if_neg n1, if_neg n2]
  exact br_f (co_F_ge z) (br_f k3 h78)
theorem co_YC1 {post : Int32 → SY → Prop} {t l f1 sort f3 typed f5 f6 f7 : Int32} {a b : Nat → Int32} (h0 : ¬ f1 = 0) (l1 : ¬ l < 1) (l9 : ¬ 9 < l) (g : ¬ co_ag typed t = 0) (hn : ¬ typed = 0)
    (h : wY_cast_82 post t l f1 sort f3 typed f5 f6 f7 a b) : wpY_cast post (f1, sort, f3, typed, f5, f6, f7, a, b) t l := by
  unfold wpY_cast
  dsimp only
  exact br_f h0 (br_f l1 (br_f l9 (co_Yagree (br_f g (br_f hn h)))))
theorem co_XC0 {post : Int32 → SX → Prop} {t l vt vk vr lk lr : Int32} {ab rb : Nat → Int32} (nk : ¬ vk = -100) (l1 : ¬ l < 1) (l9 : l ≤ 9) (g : ¬ co_ag vt t = 0) (hc : co_cf vt t vk = 0) (hk : ¬ vk = 2) (h : post 0 (t, vk, vr, lk, lr, ab, rb)) : wpX_cast post (vt, vk, vr, lk, lr, ab, rb) t l := by
  unfold wpX_cast
  dsimp only
  exact br_f nk (br_f l1 (br_t l9 (co_Xagree (br_f g (co_Xcf (br_t hc (br_f hk h)))))))
theorem co_XCf {post : Int32 → SX → Prop} {t l vt vk vr lk lr : Int32} {ab rb : Nat → Int32} (nk : ¬ vk = -100) (l1 : ¬ l < 1) (l9 : l ≤ 9) (g : ¬ co_ag vt t = 0) (hc : ¬ co_cf vt t vk = 0) (h : post l (-100, -100, 0, lk, lr, ab, rb)) : wpX_cast post (vt, vk, vr, lk, lr, ab, rb) t l := by
  unfold wpX_cast
  dsimp only
  refine br_f nk (br_f l1 (br_t l9 (co_Xagree (br_f g (co_Xcf (br_f hc ?_))))))
  exact h
theorem co_XCw {post : Int32 → SX → Prop} {t l vt vr lk lr s z : Int32} {ar rb : Nat → Int32} (l1 : ¬ l < 1) (l9 : l ≤ 9) (g : ¬ co_ag vt t = 0) (hc : co_cf vt t 2 = 0) (hs : co_F s) (hz : co_F z)
    (es : (vt = 0 ∧ s = 3) ∨ (¬ vt = 0 ∧ s = vt)) (ez : (t = 0 ∧ z = 3) ∨ (¬ t = 0 ∧ z = t))
    (h : post 0 (t, 2, vr, lk, lr, co_neg (co_in (co_ask s z) l ar), co_out (co_giv s z) l rb)) : wpX_cast post (vt, 2, vr, lk, lr, co_neg ar, rb) t l := by
  have nk : ¬ (2 : Int32) = -100 := by decide
  unfold wpX_cast
  dsimp only
  refine br_f nk (br_f l1 (br_t l9 (co_Xagree (br_f g (co_Xcf (br_t hc (br_t rfl ?_)))))))
  rcases es with ⟨e, rfl⟩ | ⟨e, rfl⟩
  · refine br_t e ?_
    rcases ez with ⟨f, rfl⟩ | ⟨f, rfl⟩
    · exact br_t f (co_Xwrap hs hz h)
    · exact br_f f (co_Xwrap hs hz h)
  · refine br_f e ?_
    rcases ez with ⟨f, rfl⟩ | ⟨f, rfl⟩
    · exact br_t f (co_Xwrap hs hz h)
    · exact br_f f (co_Xwrap hs hz h)
end
section
/-! cast: the owed statement -/
theorem co_lab_n0 {l : Int32} (h : ¬ l < 1) : ¬ l < 0 := by
  intro z
  exact h (Int32.lt_trans z (by decide))
theorem co_ag_F1 {s : Int32} (h : co_F s) : co_ag s 1 = 0 := by
  rcases h with rfl | rfl | rfl | rfl | rfl | rfl | rfl | rfl | rfl <;> decide
theorem co_ag_F2 {s : Int32} (h : co_F s) : co_ag s 2 = 0 := by
  rcases h with rfl | rfl | rfl | rfl | rfl | rfl | rfl | rfl | rfl <;> decide
theorem co_ag_1F {t : Int32} (h : co_F t) : co_ag 1 t = 0 := by
  rcases h with rfl | rfl | rfl | rfl | rfl | rfl | rfl | rfl | rfl <;> decide
theorem co_ag_2F {t : Int32} (h : co_F t) : co_ag 2 t = 0 := by
  rcases h with rfl | rfl | rfl | rfl | rfl | rfl | rfl | rfl | rfl <;> decide
theorem co_kd_F {t : Int32} (h : co_F t) : co_kd t = 2 := by
  unfold co_kd; rw [if_neg (co_F_n1 h), if_neg (co_F_n2 h)]
theorem co_cf0 {t k : Int32} (h : ¬ t = 0) (hk : ¬ co_kd t = k) : ¬ co_cf 0 t k = 0 := by
  unfold co_cf; rw [if_pos rfl, if_neg h, if_neg hk]; decide
theorem co_cf1 {t k : Int32} (hk : co_kd t = k) : co_cf 0 t k = 0 := by
  unfold co_cf; rw [if_pos rfl, if_pos hk, ite_self]
theorem co_cf2 {s t k : Int32} (h : ¬ s = 0) : co_cf s t k = 0 := if_neg h
/-- a number or a truth: its own type is o -/
theorem co_castS {k : Nat} {o so sort value typed lk lr called kr yr t l : Int32} {ar out : Nat → Int32} (h0 : ¬ so = 0) (hR : co_Res lk lr called kr yr) (hA : co_Lab ar) (hO : co_Lab out)
    (l1 : ¬ l < 1) (l9 : ¬ 9 < l) (g : ¬ co_ag typed t = 0) (ho : (sort = 0 ∧ o = 1) ∨ (sort = 1 ∧ o = 2)) (hty : typed = 0 ∨ typed = o) :
    wpX_cast (fun r u' => wpY_cast (fun r' v' => r' = r ∧ i_Rel k u' v') (so, sort, value, typed, called, kr, yr, ar, out) t l) (typed, sort, value, lk, lr, co_neg ar, out) t l := by
  have l9' : l ≤ 9 := Int32.not_lt.mp l9
  have nk : ¬ sort = -100 := by rcases ho with ⟨e, _⟩ | ⟨e, _⟩ <;> rw [e] <;> decide
  have n2 : ¬ sort = 2 := by rcases ho with ⟨e, _⟩ | ⟨e, _⟩ <;> rw [e] <;> decide
  have o0 : ¬ o = 0 := by rcases ho with ⟨_, e⟩ | ⟨_, e⟩ <;> rw [e] <;> decide
  have o3 : o < 3 := by rcases ho with ⟨_, e⟩ | ⟨_, e⟩ <;> rw [e] <;> decide
  have ok : co_kd o = sort := by rcases ho with ⟨f, e⟩ | ⟨f, e⟩ <;> rw [e, f] <;> decide
  have z3 : (0 : Int32) < 3 := by decide
  have hT := (co_ag_T g).2
  have fit : ∀ x : Int32, x = 0 ∨ x = o → co_Fit sort value x := by
    intro x hx
    rcases ho with ⟨e, f⟩ | ⟨e, f⟩
    · rw [f] at hx; exact Or.inl ⟨e, hx⟩
    · rw [f] at hx; exact Or.inr (Or.inl ⟨e, hx⟩)
  rcases hty with rfl | rfl
  · by_cases t0 : t = 0
    · rw [t0] at g hT ⊢
      exact co_XC0 nk l1 l9' g (by unfold co_cf; rw [if_pos rfl, if_pos rfl]) n2 (co_YC0 h0 l1 l9 g (Or.inl rfl) (co_Y82a z3 z3 ⟨rfl, co_mkV h0 (fit 0 (Or.inl rfl)) hR hA hO⟩) hT)
    by_cases c : co_kd t = sort
    · have e : t = o := by
        rcases ho with ⟨f, e⟩ | ⟨f, e⟩
        · rw [f] at c
          rw [e]
          unfold co_kd at c
          split at c
          · assumption
          · split at c
            · exact absurd c (by decide)
            · exact absurd c (by decide)
        · rw [f] at c
          rw [e]
          unfold co_kd at c
          split at c
          · exact absurd c (by decide)
          · split at c
            · assumption
            · exact absurd c (by decide)
      rw [e] at g hT c ⊢
      exact co_XC0 nk l1 l9' g (co_cf1 c) n2 (co_YC0 h0 l1 l9 g (Or.inr c) (co_Y82a z3 o3 ⟨rfl, co_mkV h0 (fit o (Or.inr rfl)) hR hA hO⟩) hT)
    · exact co_XCf nk l1 l9' g (co_cf0 t0 c) (co_YCf h0 l1 l9 g t0 c ⟨rfl, co_mk0 hR hA hO⟩ hT)
  · have ht : t = 0 ∨ t = typed := by
      rcases ho with ⟨_, e⟩ | ⟨_, e⟩
      · rw [e] at g ⊢
        rcases hT with z | z | z | z
        · exact Or.inl z
        · exact Or.inr z
        · rw [z] at g; exact absurd (by decide) g
        · exact absurd (co_ag_1F z) g
      · rw [e] at g ⊢
        rcases hT with z | z | z | z
        · exact Or.inl z
        · rw [z] at g; exact absurd (by decide) g
        · exact Or.inr z
        · exact absurd (co_ag_2F z) g
    have t3 : t < 3 := by
      rcases ht with z | z
      · rw [z]; exact z3
      · rw [z]; exact o3
    exact co_XC0 nk l1 l9' g (co_cf2 o0) n2 (co_YC1 h0 l1 l9 g o0 (co_Y82a o3 t3 ⟨rfl, co_mkV h0 (fit t ht) hR hA hO⟩))
/-- a function -/
theorem co_castF {k : Nat} {so value typed lk lr called kr yr t l : Int32} {ar out : Nat → Int32} (h0 : ¬ so = 0) (hR : co_Res lk lr called kr yr) (hA : co_Lab ar) (hO : co_Lab out)
    (l1 : ¬ l < 1) (l9 : ¬ 9 < l) (g : ¬ co_ag typed t = 0) (hty : typed = 0 ∨ co_F typed) (hv : co_6 value) :
    wpX_cast (fun r u' => wpY_cast (fun r' v' => r' = r ∧ i_Rel k u' v') (so, 2, value, typed, called, kr, yr, ar, out) t l) (typed, 2, value, lk, lr, co_neg ar, out) t l := by
  have l9' : l ≤ 9 := Int32.not_lt.mp l9
  have l0 := co_lab_n0 l1
  have nk : ¬ (2 : Int32) = -100 := by decide
  have z3 : (0 : Int32) < 3 := by decide
  have hT := (co_ag_T g).2
  have fit : ∀ x : Int32, x = 0 ∨ co_F x → co_Fit 2 value x := fun x hx => Or.inr (Or.inr ⟨rfl, hx, hv⟩)
  have wr : ∀ s z x : Int32, x = 0 ∨ co_F x → i_Rel k (x, 2, value, lk, lr, co_neg (co_in (co_ask s z) l ar), co_out (co_giv s z) l out) (so, 2, value, x, called, kr, yr, co_in (co_ask s z) l ar, co_out (co_giv s z) l out) :=
    fun s z x hx => co_mkV h0 (fit x hx) hR (co_in_lab hA l0 l9') (co_out_lab hO l0 l9')
  rcases hty with rfl | hs
  · have hT' := hT
    rcases hT with rfl | rfl | rfl | ht
    · have e1 : co_ask 3 3 = 0 := by decide
      have e2 : co_giv 3 3 = 0 := by decide
      have e3 : co_in 0 l ar = ar := by simp [co_in]
      have e4 : co_out 0 l out = out := by simp [co_out]
      refine co_XCw l1 l9' g (by decide) co_3F co_3F (Or.inl ⟨rfl, rfl⟩) (Or.inl ⟨rfl, rfl⟩) ?_
      rw [e1, e2, e3, e4]
      exact co_YC0 h0 l1 l9 g (Or.inl rfl) (co_Y82a z3 z3 ⟨rfl, co_mkV h0 (fit 0 (Or.inl rfl)) hR hA hO⟩) hT'
    · have c : ¬ co_kd 1 = 2 := by decide
      exact co_XCf nk l1 l9' g (co_cf0 co_10 c) (co_YCf h0 l1 l9 g co_10 c ⟨rfl, co_mk0 hR hA hO⟩ hT')
    · have c : ¬ co_kd 2 = 2 := by decide
      have t0 : ¬ (2 : Int32) = 0 := by decide
      exact co_XCf nk l1 l9' g (co_cf0 t0 c) (co_YCf h0 l1 l9 g t0 c ⟨rfl, co_mk0 hR hA hO⟩ hT')
    · have ht : co_F t := ht
      have c := co_kd_F ht
      exact co_XCw l1 l9' g (co_cf1 c) co_3F ht (Or.inl ⟨rfl, rfl⟩) (Or.inr ⟨co_F_n0 ht, rfl⟩)
        (co_YC0 h0 l1 l9 g (Or.inr c) (co_Y82b ht ⟨rfl, wr 3 t t (Or.inr ht)⟩) hT')
  · have s0 := co_F_n0 hs
    rcases hT with rfl | rfl | rfl | ht
    · exact co_XCw l1 l9' g (co_cf2 s0) hs co_3F (Or.inr ⟨s0, rfl⟩) (Or.inl ⟨rfl, rfl⟩)
        (co_YC1 h0 l1 l9 g s0 (co_Y82c hs ⟨rfl, wr typed 3 0 (Or.inl rfl)⟩))
    · exact absurd (co_ag_F1 hs) g
    · exact absurd (co_ag_F2 hs) g
    · have ht : co_F t := ht
      exact co_XCw l1 l9' g (co_cf2 s0) hs ht (Or.inr ⟨s0, rfl⟩) (Or.inr ⟨co_F_n0 ht, rfl⟩)
        (co_YC1 h0 l1 l9 g s0 (co_Y82d hs ht ⟨rfl, wr typed t t (Or.inr ht)⟩))
theorem i_vc_cast {k : Nat} {u : SX} {v : SY} (I : i_Rel k u v) (hk : k + 3 ≤ 1536) (v1 : Int32) (v2 : Int32) : wpX_cast (fun r u' => wpY_cast (fun r' v' => r' = r ∧ i_Rel (k + 3) u' v') v v1 v2) u v1 v2 := by
  have J := i_up I
  obtain ⟨vt, vk, vr, lk, lr, so, sort, value, typed, called, kr, yr, ar, out, rfl, rfl, hV, hR, hA, hO⟩ := I
  rcases hV with ⟨h0, h1, h2, h3⟩ | ⟨h0, h1, h2, h3, hF⟩
  · unfold wpX_cast wpY_cast
    dsimp only
    exact br_t h2 (br_t h0 ⟨rfl, J⟩)
  cases h1
  cases h2
  cases h3
  have nk : ¬ vk = -100 := by rcases hF with ⟨e, _⟩ | ⟨e, _⟩ | ⟨e, _⟩ <;> rw [e] <;> decide
  by_cases l1 : v2 < 1
  · unfold wpX_cast wpY_cast
    dsimp only
    exact br_f nk (br_t l1 (br_f h0 (br_t l1 ⟨rfl, J⟩)))
  by_cases l9 : 9 < v2
  · have l9' : ¬ v2 ≤ 9 := fun z => (co_9 v2).mp z l9
    unfold wpX_cast wpY_cast
    dsimp only
    exact br_f nk (br_f l1 (br_f l9' (br_f h0 (br_f l1 (br_t l9 ⟨rfl, J⟩)))))
  by_cases g : co_ag vt v1 = 0
  · have l9' : v2 ≤ 9 := (co_9 v2).mpr l9
    unfold wpX_cast wpY_cast
    dsimp only
    exact br_f nk (br_f l1 (br_t l9' (co_Xagree (br_t g (br_f h0 (br_f l1 (br_f l9 (co_Yagree (br_t g ⟨rfl, J⟩)))))))))
  rcases hF with ⟨e, f⟩ | ⟨e, f⟩ | ⟨e, f, hv⟩
  · exact co_castS (o := 1) h0 hR hA hO l1 l9 g (Or.inl ⟨e, rfl⟩) f
  · exact co_castS (o := 2) h0 hR hA hO l1 l9 g (Or.inr ⟨e, rfl⟩) f
  · cases e
    exact co_castF h0 hR hA hO l1 l9 g f hv
end
section
/-! call -/
def co_arg (k n : Int32) : Int32 := if k = 0 then 1 else (if k = 1 then (if n = 0 then 1 else (if n = 1 then 1 else 0)) else 0)
theorem co_Xarg {post : Int32 → Prop} {k n : Int32} (h : post (co_arg k n)) : wpX_isArgument post k n := by
  unfold co_arg at h
  exact ⟨(co_ite h).1, fun z => ⟨fun y => ⟨(co_ite ((co_ite ((co_ite h).2 z)).1 y)).1, fun x => co_ite ((co_ite ((co_ite ((co_ite h).2 z)).1 y)).2 x)⟩, (co_ite ((co_ite h).2 z)).2⟩⟩
theorem co_arg01 {k n : Int32} (h : ¬ co_arg k n = 0) : k = 0 ∨ k = 1 := by
  unfold co_arg at h
  split at h
  · rename_i z; exact Or.inl z
  · split at h
    · rename_i z; exact Or.inr z
    · exact absurd rfl h
theorem co_Ycall {post : Int32 → SY → Prop} {k n f1 f2 f3 f4 f5 f6 f7 : Int32} {a b : Nat → Int32} (h : wY_call_23 post k n (co_arg k n) f1 f2 f3 f4 f5 f6 f7 a b) : wpY_call post (f1, f2, f3, f4, f5, f6, f7, a, b) k n := by
  unfold co_arg at h
  unfold wpY_call wY_call_18 wY_call_22
  dsimp only
  by_cases k0 : k = 0
  · rw [if_pos k0] at h
    exact br_t k0 h
  rw [if_neg k0] at h
  by_cases k1 : k = 1
  · rw [if_pos k1] at h
    by_cases n0 : n = 0
    · rw [if_pos n0] at h
      exact br_f k0 (br_t k1 (br_t n0 h))
    rw [if_neg n0] at h
    by_cases n1 : n = 1
    · rw [if_pos n1] at h
      exact br_f k0 (br_t k1 (br_f n0 (br_t n1 h)))
    · rw [if_neg n1] at h
      exact br_f k0 (br_t k1 (br_f n0 (br_f n1 h)))
  · rw [if_neg k1] at h
    exact br_f k0 (br_f k1 h)
def co_rk (f k : Int32) : Int32 := if f = 1 then k else if f = 2 then 1 else if f = 3 then 1 else 0
def co_rv (f n : Int32) : Int32 := if f = 0 then n + 1 else if f = 1 then n else if f = 2 then 1 - n else if f = 3 then (if n ≤ 0 then 0 else 1) else if f = 4 then 7 else n
theorem co_Xrk {P : Int32 → Prop} {vt vk f lk lr k : Int32} {ab rb : Nat → Int32} (hf : co_6 f) (h : P (co_rk f k)) : wpX_innermostResultKind P (vt, vk, f, lk, lr, ab, rb) k := by
  rcases hf with rfl | rfl | rfl | rfl | rfl | rfl <;> simpa [wpX_innermostResultKind, co_rk] using h
theorem co_Xrv {P : Int32 → Prop} {vt vk f lk lr n : Int32} {ab rb : Nat → Int32} (hf : co_6 f) (h : P (co_rv f n)) : wpX_innermostResult P (vt, vk, f, lk, lr, ab, rb) n := by
  rcases hf with rfl | rfl | rfl | rfl | rfl | rfl
  · simpa [wpX_innermostResult, co_rv] using h
  · simpa [wpX_innermostResult, co_rv] using h
  · simpa [wpX_innermostResult, co_rv] using h
  · have e : co_rv 3 n = if n ≤ 0 then 0 else 1 := rfl
    rw [e] at h
    have a : ¬ (3 : Int32) < 0 := by decide
    have b : ¬ (4 : Int32) < 3 := by decide
    have c0 : ¬ (3 : Int32) = 0 := by decide
    have c1 : ¬ (3 : Int32) = 1 := by decide
    have c2 : ¬ (3 : Int32) = 2 := by decide
    exact br_f a (br_f b (br_f c0 (br_f c1 (br_f c2 (br_t rfl (co_ite h))))))
  · simpa [wpX_innermostResult, co_rv] using h
  · simpa [wpX_innermostResult, co_rv] using h
theorem co_Y121 {post : Int32 → SY → Prop} {n z f1 f2 f f4 f5 f6 f7 : Int32} {a b : Nat → Int32} (hf : co_6 f) (h : wY_call_192 post z (co_rv f n) f1 f2 f f4 f5 f6 f7 a b) : wY_call_121 post n z f1 f2 f f4 f5 f6 f7 a b := by
  rcases hf with rfl | rfl | rfl | rfl | rfl | rfl
  · simpa [wY_call_121, wY_call_152, co_rv] using h
  · simpa [wY_call_121, wY_call_152, co_rv] using h
  · simpa [wY_call_121, wY_call_152, co_rv] using h
  · have e : co_rv 3 n = if n ≤ 0 then 0 else 1 := rfl
    rw [e] at h
    have c0 : ¬ (3 : Int32) = 0 := by decide
    have c1 : ¬ (3 : Int32) = 1 := by decide
    have c5 : ¬ (3 : Int32) = 5 := by decide
    have c2 : ¬ (3 : Int32) = 2 := by decide
    exact br_f c0 (br_f c1 (br_f c5 (br_f c2 (br_t rfl (co_ite (post := fun x => wY_call_192 post z x f1 f2 3 f4 f5 f6 f7 a b) h)))))
  · simpa [wY_call_121, wY_call_152, co_rv] using h
  · simpa [wY_call_121, wY_call_152, co_rv] using h
theorem co_rk01 {f k : Int32} (hk : k = 0 ∨ k = 1) : co_rk f k = 0 ∨ co_rk f k = 1 := by
  unfold co_rk
  split
  · exact hk
  · split
    · exact Or.inr rfl
    · split
      · exact Or.inr rfl
      · exact Or.inl rfl
theorem co_in01 {k : Int32} (hk : k = 0 ∨ k = 1) : vp_in k 2 := by
  rcases hk with rfl | rfl
  · exact co_i0
  · exact co_i1
theorem co_Y71 {post : Int32 → SY → Prop} {k n f1 f2 f f4 f5 f6 f7 : Int32} {a b : Nat → Int32} (hk : k = 0 ∨ k = 1) (hf : co_6 f) (hz : a k.toNatClampNeg ≤ 0)
    (h : wY_call_192 post (co_rk f k) (co_rv f n) f1 f2 f f4 f5 f6 f7 a b) : wY_call_71 post k n f1 f2 f f4 f5 f6 f7 a b := by
  refine ⟨co_in01 hk, br_t hz ?_⟩
  unfold co_rk at h
  by_cases c1 : f = 1
  · rw [if_pos c1] at h
    exact br_t c1 (co_Y121 hf h)
  rw [if_neg c1] at h
  refine br_f c1 ?_
  by_cases c2 : f = 2
  · rw [if_pos c2] at h
    exact br_t c2 (co_Y121 hf h)
  rw [if_neg c2] at h
  refine br_f c2 ?_
  by_cases c3 : f = 3
  · rw [if_pos c3] at h
    exact br_t c3 (co_Y121 hf h)
  rw [if_neg c3] at h
  exact br_f c3 (co_Y121 hf h)
/-- behind the checks: both sides -/
theorem co_call44 {Q : Int32 → SX → Prop} {K : Nat} {k n so f typed lk lr called kr yr : Int32} {ar out : Nat → Int32} (hk : k = 0 ∨ k = 1) (hf : co_6 f) (h0 : ¬ so = 0) (hT : co_F typed) (hR : co_Res lk lr called kr yr) (hA : co_Lab ar) (hO : co_Lab out)
    (hQ : ∀ (r : Int32) (u' : SX), wY_call_71 (fun r' v' => r' = r ∧ i_Rel K u' v') k n so 2 f typed called kr yr ar out → Q r u') :
    wX_call_44 Q k n typed 2 f lk lr (co_neg ar) out := by
  have hi := co_in01 hk
  have hr := co_in01 (co_rk01 (f := f) hk)
  have fit : co_Fit 2 f typed := Or.inr (Or.inr ⟨rfl, Or.inr hT, hf⟩)
  have J : i_Rel K (typed, 2, f, lk, lr, co_neg ar, out) (so, 2, f, typed, called, kr, yr, ar, out) := co_mkV h0 fit hR hA hO
  refine ⟨hi, br_c (fun c => ?_) (fun c => ?_)⟩
  · have c' : ar k.toNatClampNeg ≤ 0 := (co_le0 hA _).mpr ((co_neg_eq ar _).mp c)
    refine co_Xrk hf ⟨hr, br_c (fun d => ?_) (fun d => ?_)⟩
    · have d' := (co_le0 hO _).mpr d
      exact co_Xrv hf (hQ _ _ (co_Y71 hk hf c' ⟨hr, br_t d' ⟨rfl, co_mkV h0 fit (Or.inr ⟨co_10, rfl, rfl⟩) hA hO⟩⟩))
    · have d' : ¬ out (co_rk f k).toNatClampNeg ≤ 0 := fun z => d ((co_le0 hO _).mp z)
      exact ⟨hr, hQ _ _ (co_Y71 hk hf c' ⟨hr, br_f d' ⟨hr, rfl, J⟩⟩)⟩
  · have c' : ¬ ar k.toNatClampNeg ≤ 0 := fun z => c ((co_neg_eq ar _).mpr ((co_le0 hA _).mp z))
    exact ⟨hi, hQ _ _ ⟨hi, br_f c' ⟨hi, rfl, J⟩⟩⟩
theorem co_kd_dom {q k : Int32} (hq : co_3 q) (h0 : ¬ q = 0) (hk : k = 0 ∨ k = 1) : co_kd q = k ↔ q = k + 1 := by
  rcases hq with rfl | rfl | rfl
  · exact absurd rfl h0
  · rcases hk with rfl | rfl <;> decide
  · rcases hk with rfl | rfl <;> decide
theorem co_isFn {t : Int32} (h : co_F t) : ¬ co_isF t = 0 := by
  unfold co_isF
  rw [if_neg (co_F_ge h), if_neg (co_F_le h)]
  decide
theorem co_FitF {sort value typed : Int32} (h : co_Fit sort value typed) (h3 : ¬ typed < 3) : sort = 2 ∧ co_F typed ∧ co_6 value := by
  rcases h with ⟨_, z | z⟩ | ⟨_, z | z⟩ | ⟨e, z | z, v⟩
  · rw [z] at h3; exact absurd (by decide) h3
  · rw [z] at h3; exact absurd (by decide) h3
  · rw [z] at h3; exact absurd (by decide) h3
  · rw [z] at h3; exact absurd (by decide) h3
  · rw [z] at h3; exact absurd (by decide) h3
  · exact ⟨e, z, v⟩
theorem i_vc_call {k : Nat} {u : SX} {v : SY} (I : i_Rel k u v) (hk : k + 3 ≤ 1536) (v1 : Int32) (v2 : Int32) : wpX_call (fun r u' => wpY_call (fun r' v' => r' = r ∧ i_Rel (k + 3) u' v') v v1 v2) u v1 v2 := by
  have J := i_up I
  obtain ⟨vt, vk, vr, lk, lr, so, sort, value, typed, called, kr, yr, ar, out, rfl, rfl, hV, hR, hA, hO⟩ := I
  unfold wpX_call
  dsimp only
  rcases hV with ⟨h0, h1, h2, h3⟩ | ⟨h0, h1, h2, h3, hF⟩
  · have e : co_isF vt = 0 := by rw [h1]; decide
    exact co_XisF (br_t e (co_Ycall (br_t h0 ⟨rfl, J⟩)))
  cases h1
  cases h2
  cases h3
  by_cases t3 : vt < 3
  · exact co_XisF (br_t (co_isF0 t3) (co_Ycall (br_f h0 (br_t t3 ⟨rfl, J⟩))))
  obtain ⟨e, hT, hv⟩ := co_FitF hF t3
  cases e
  refine co_XisF (br_f (co_isFn hT) (co_Xarg (br_c (fun c => ?_) (fun c => ?_))))
  · exact co_Ycall (br_f h0 (br_f t3 (br_t c ⟨rfl, J⟩)))
  have hk1 := co_arg01 c
  refine co_Xdom (br_c (fun d => ?_) (fun d => ?_))
  · exact co_call44 hk1 hv h0 hT hR hA hO (fun r u' y => co_Ycall (br_f h0 (br_f t3 (br_f c (co_Ydom (br_t d y))))))
  · have q := co_kd_dom (co_F_dom hT) d hk1
    refine co_Xkd (br_c (fun e => ?_) (fun e => ?_))
    · exact co_call44 hk1 hv h0 hT hR hA hO (fun r u' y => co_Ycall (br_f h0 (br_f t3 (br_f c (co_Ydom (br_f d (co_Ydom (br_t (q.mp e) y))))))))
    · exact co_Ycall (br_f h0 (br_f t3 (br_f c (co_Ydom (br_f d (co_Ydom (br_f (fun z => e (q.mpr z)) ⟨rfl, J⟩)))))))
end
