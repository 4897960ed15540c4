/-! set -/
theorem co_i0 : vp_in 0 2 := vp_in_iff.mpr (by decide)
theorem co_i1 : vp_in 1 2 := vp_in_iff.mpr (by decide)
theorem co_n0 : ¬ (2 : Int32) ≤ 0 := by decide
theorem co_n1 : ¬ (2 : Int32) ≤ 1 := by decide
theorem co_n2 : (2 : Int32) ≤ 2 := by decide
theorem co_p0 : (0 : Int32) + 1 = 1 := by decide
theorem co_p1 : (1 : Int32) + 1 = 2 := by decide
theorem co_c0 : (0 : Int32).toNatClampNeg = 0 := by decide
theorem co_c1 : (1 : Int32).toNatClampNeg = 1 := by decide
theorem co_10 : ¬ (1 : Int32) = 0 := by decide
def co_z (a : Nat → Int32) : Nat → Int32 := upd (upd a 0 0) 1 0
theorem co_z_neg (a : Nat → Int32) : co_z (co_neg a) = co_neg (co_z a) := by
  unfold co_z; rw [co_upd_neg0, co_upd_neg0]
theorem co_z_lab {a : Nat → Int32} (h : co_Lab a) : co_Lab (co_z a) :=
  co_lab_upd (co_lab_upd h 0 (by decide) (by decide)) 1 (by decide) (by decide)
theorem co_Xunwrap {post : SX → Prop} {vt vk vr lk lr : Int32} {ab rb : Nat → Int32} (h : post (vt, vk, vr, lk, lr, co_z ab, co_z rb)) : wpX_unwrap post (vt, vk, vr, lk, lr, ab, rb) := by
  refine ⟨3, br_f co_n0 ⟨co_i0, nm_r (e' := upd ab 0 0) (by rw [co_c0]) ⟨co_i0, nm_r (e' := upd rb 0 0) (by rw [co_c0]) (nm_r co_p0 ?_)⟩⟩⟩
  refine br_f co_n1 ⟨co_i1, nm_r (e' := co_z ab) (by rw [co_c1]; rfl) ⟨co_i1, nm_r (e' := co_z rb) (by rw [co_c1]; rfl) (nm_r co_p1 ?_)⟩⟩
  exact br_t co_n2 h
theorem co_Yzero {post : Int32 → SY → Prop} {f1 f2 f3 f4 f5 f6 f7 : Int32} {ar out : Nat → Int32} (h : post f4 (f1, f2, f3, f4, 0, f6, f7, co_z ar, co_z out)) : ∃ n : Nat, wY_set_89 post f1 f2 f3 f4 f5 f6 f7 n 0 ar out := by
  refine ⟨3, br_f co_n0 ⟨co_i0, nm_r (e' := upd ar 0 0) (by rw [co_c0]) ⟨co_i0, nm_r (e' := upd out 0 0) (by rw [co_c0]) (nm_r co_p0 ?_)⟩⟩⟩
  refine br_f co_n1 ⟨co_i1, nm_r (e' := co_z ar) (by rw [co_c1]; rfl) ⟨co_i1, nm_r (e' := co_z out) (by rw [co_c1]; rfl) (nm_r co_p1 ?_)⟩⟩
  exact br_t co_n2 h
theorem co_XsetOk {post : Int32 → SX → Prop} {vt vk vr lk lr p0 p1 T : Int32} {ab rb : Nat → Int32}
    (hS : ∀ P : Int32 → Prop, P 1 → wpX_isSettable P p0 p1) (hT : ∀ P : Int32 → Prop, P T → wpX_ownType P p0 p1)
    (h : post T (T, p0, p1, -100, 0, co_z ab, co_z rb)) : wpX_set post (vt, vk, vr, lk, lr, ab, rb) p0 p1 := by
  unfold wpX_set
  dsimp only
  refine hS _ (br_f co_10 (hT _ (co_Xunwrap ?_)))
  exact h
theorem co_XsetBad {post : Int32 → SX → Prop} {vt vk vr lk lr p0 p1 : Int32} {ab rb : Nat → Int32}
    (hS : ∀ P : Int32 → Prop, P 0 → wpX_isSettable P p0 p1)
    (h : post (-100) (vt, vk, vr, lk, lr, ab, rb)) : wpX_set post (vt, vk, vr, lk, lr, ab, rb) p0 p1 := by
  unfold wpX_set
  dsimp only
  exact hS _ (br_t rfl h)
theorem co_Y36 {post : Int32 → SY → Prop} {x1 x2 f1 f2 f3 f4 f5 f6 f7 : Int32} {ar out : Nat → Int32} (h : post (-100) (f1, f2, f3, f4, f5, f6, f7, ar, out)) : wY_set_36 post x1 x2 f1 f2 f3 f4 f5 f6 f7 ar out := br_t rfl h
def co_own (n : Int32) : Int32 := if n = 0 then 7 else if n = 1 then 3 else if n = 2 then 11 else if n = 3 then 8 else if n = 4 then 4 else 10
theorem co_ownF {n : Int32} (h : co_6 n) : co_F (co_own n) := by
  unfold co_F
  rcases h with rfl | rfl | rfl | rfl | rfl | rfl <;> decide
theorem co_Xown {P : Int32 → Prop} {n : Int32} (hn : co_6 n) (h : P (co_own n)) : wpX_ownFunctionType P n := by
  rcases hn with rfl | rfl | rfl | rfl | rfl | rfl <;> simpa [wpX_ownFunctionType, wpX_functionType, co_own] using h
theorem co_Yown {P : Int32 → Prop} {u : SY} {n : Int32} (hn : co_6 n) (h : P (co_own n)) : wpY_own P u n := by
  obtain ⟨f1, f2, f3, f4, f5, f6, f7, ar, out⟩ := u
  rcases hn with rfl | rfl | rfl | rfl | rfl | rfl <;> simpa [wpY_own, wpY_arrow, co_own] using h
theorem co_YsetOk {post : Int32 → SY → Prop} {x1 x2 f1 f2 f3 f4 f5 f6 f7 T : Int32} {ar out : Nat → Int32}
    (hT : (x1 = 0 ∧ T = 1) ∨ (x1 = 1 ∧ T = 2) ∨ (x1 = 2 ∧ co_6 x2 ∧ T = co_own x2))
    (h : post T (1, x1, x2, T, 0, f6, f7, co_z ar, co_z out)) : wY_set_32 post x1 x2 f1 f2 f3 f4 f5 f6 f7 ar out := by
  refine br_f co_10 ?_
  rcases hT with ⟨e, rfl⟩ | ⟨e, rfl⟩ | ⟨e, hn, rfl⟩
  · exact br_t e (co_Yzero h)
  · have n : ¬ x1 = 0 := by rw [e]; decide
    exact br_f n (br_t e (co_Yzero h))
  · have n : ¬ x1 = 0 := by rw [e]; decide
    have n1 : ¬ x1 = 1 := by rw [e]; decide
    exact br_f n (br_f n1 (co_Yown hn (co_Yzero h)))
theorem co_mkV {k : Nat} {so sort value typed lk lr called kr yr : Int32} {ar out : Nat → Int32} (h0 : ¬ so = 0) (hF : co_Fit sort value typed) (hR : co_Res lk lr called kr yr) (hA : co_Lab ar) (hO : co_Lab out) :
    i_Rel k (typed, sort, value, lk, lr, co_neg ar, out) (so, sort, value, typed, called, kr, yr, ar, out) :=
  ⟨_, _, _, _, _, _, _, _, _, _, _, _, _, _, rfl, rfl, Or.inr ⟨h0, rfl, rfl, rfl, hF⟩, hR, hA, hO⟩
theorem co_mk0 {k : Nat} {sort value typed lk lr called kr yr : Int32} {ar out : Nat → Int32} (hR : co_Res lk lr called kr yr) (hA : co_Lab ar) (hO : co_Lab out) :
    i_Rel k (-100, -100, 0, lk, lr, co_neg ar, out) (0, sort, value, typed, called, kr, yr, ar, out) :=
  ⟨_, _, _, _, _, _, _, _, _, _, _, _, _, _, rfl, rfl, Or.inl ⟨rfl, rfl, rfl, rfl⟩, hR, hA, hO⟩
theorem co_setJ {k : Nat} {x1 x2 T kr yr : Int32} {ar out : Nat → Int32} (hF : co_Fit x1 x2 T) (hA : co_Lab ar) (hO : co_Lab out) :
    i_Rel k (T, x1, x2, -100, 0, co_z (co_neg ar), co_z out) (1, x1, x2, T, 0, kr, yr, co_z ar, co_z out) := by
  rw [co_z_neg]
  exact co_mkV co_10 hF (Or.inl ⟨rfl, rfl, rfl⟩) (co_z_lab hA) (co_z_lab hO)
theorem i_vc_set {k : Nat} {u : SX} {v : SY} (I : i_Rel k u v) (hk : k + 3 ≤ 1536) (v1 : Int32) (v2 : Int32) : wpX_set (fun r u' => wpY_set (fun r' v' => r' = r ∧ i_Rel (k + 3) u' v') v v1 v2) u v1 v2 := by
  have J := i_up I
  obtain ⟨vt, vk, vr, lk, lr, so, sort, value, typed, called, kr, yr, ar, out, rfl, rfl, hV, hR, hA, hO⟩ := I
  by_cases a0 : v1 = 0
  · have a2 : ¬ v1 = 2 := by rw [a0]; decide
    exact co_XsetOk (T := 1) (fun P h => br_f a2 (br_t a0 ⟨rfl, h⟩)) (fun P h => br_t a0 h)
      (br_t a0 (co_YsetOk (Or.inl ⟨a0, rfl⟩) ⟨rfl, co_setJ (Or.inl ⟨a0, Or.inr rfl⟩) hA hO⟩))
  by_cases a1 : v1 = 1
  · have a2 : ¬ v1 = 2 := by rw [a1]; decide
    by_cases b0 : v2 = 0
    · exact co_XsetOk (T := 2) (fun P h => br_f a2 (br_f a0 (br_t a1 (br_t b0 ⟨rfl, h⟩)))) (fun P h => br_f a0 (br_t a1 h))
        (br_f a0 (br_t a1 (br_t b0 (co_YsetOk (Or.inr (Or.inl ⟨a1, rfl⟩)) ⟨rfl, co_setJ (Or.inr (Or.inl ⟨a1, Or.inr rfl⟩)) hA hO⟩))))
    by_cases b1 : v2 = 1
    · exact co_XsetOk (T := 2) (fun P h => br_f a2 (br_f a0 (br_t a1 (br_f b0 (br_t b1 ⟨rfl, h⟩))))) (fun P h => br_f a0 (br_t a1 h))
        (br_f a0 (br_t a1 (br_f b0 (br_t b1 (co_YsetOk (Or.inr (Or.inl ⟨a1, rfl⟩)) ⟨rfl, co_setJ (Or.inr (Or.inl ⟨a1, Or.inr rfl⟩)) hA hO⟩)))))
    · exact co_XsetBad (fun P h => br_f a2 (br_f a0 (br_t a1 (br_f b0 (br_f b1 ⟨rfl, h⟩)))))
        (br_f a0 (br_t a1 (br_f b0 (br_f b1 (br_f a2 (co_Y36 ⟨rfl, J⟩))))))
  by_cases a2 : v1 = 2
  · by_cases c0 : v2 < 0
    · exact co_XsetBad (fun P h => br_t a2 (br_t c0 h)) (br_f a0 (br_f a1 (br_t a2 (br_t c0 (co_Y36 ⟨rfl, J⟩)))))
    by_cases c5 : 5 < v2
    · exact co_XsetBad (fun P h => br_t a2 (br_f c0 (br_t c5 h))) (br_f a0 (br_f a1 (br_t a2 (br_f c0 (br_t c5 (co_Y36 ⟨rfl, J⟩))))))
    have h6 : co_6 v2 := co_e6 c0 c5
    exact co_XsetOk (T := co_own v2) (fun P h => br_t a2 (br_f c0 (br_f c5 h))) (fun P h => br_f a0 (br_f a1 (co_Xown h6 h)))
      (br_f a0 (br_f a1 (br_t a2 (br_f c0 (br_f c5 (co_YsetOk (Or.inr (Or.inr ⟨a2, h6, rfl⟩)) ⟨rfl, co_setJ (Or.inr (Or.inr ⟨a2, Or.inr (co_ownF h6), h6⟩)) hA hO⟩))))))
  · exact co_XsetBad (fun P h => br_f a2 (br_f a0 (br_f a1 ⟨rfl, h⟩))) (br_f a0 (br_f a1 (br_f a2 (co_Y36 ⟨rfl, J⟩))))
