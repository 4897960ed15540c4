/-! agree, agreeing, and the methods that only read a field -/
theorem co_ite {c : Prop} [Decidable c] {a b : Int32} {post : Int32 → Prop} (h : post (if c then a else b)) : (c → post a) ∧ (¬ c → post b) := by
  by_cases z : c
  · rw [if_pos z] at h; exact br_t z h
  · rw [if_neg z] at h; exact br_f z h
theorem co_Xeq {post : Int32 → Prop} {a b : Int32} (h : post (co_eq a b)) : wpX_equalOrAny post a b := by
  unfold co_eq at h
  exact ⟨(co_ite h).1, fun z => ⟨(co_ite ((co_ite h).2 z)).1, fun z2 => co_ite ((co_ite ((co_ite h).2 z)).2 z2)⟩⟩
theorem co_Yeq {post : Int32 → Prop} {u : SY} {a b : Int32} (h : post (co_eq a b)) : wpY_simple post u a b := by
  obtain ⟨f1, f2, f3, f4, f5, f6, f7, ar, out⟩ := u
  unfold co_eq at h
  exact ⟨(co_ite h).1, fun z => ⟨(co_ite ((co_ite h).2 z)).1, fun z2 => co_ite ((co_ite ((co_ite h).2 z)).2 z2)⟩⟩
theorem co_XisT {post : Int32 → Prop} {t : Int32} (h : post (co_isT t)) : wpX_isType post t := by
  unfold co_isT at h
  unfold wpX_isType
  rw [co_12]
  exact ⟨(co_ite h).1, fun z => co_ite ((co_ite h).2 z)⟩
theorem co_YisT {post : Int32 → Prop} {u : SY} {t : Int32} (h : post (co_isT t)) : wpY_isType post u t := by
  obtain ⟨f1, f2, f3, f4, f5, f6, f7, ar, out⟩ := u
  unfold co_isT at h
  exact ⟨(co_ite h).1, fun z => co_ite ((co_ite h).2 z)⟩
def co_isF (t : Int32) : Int32 := if t < 3 then 0 else if 11 < t then 0 else 1
theorem co_XisF {post : Int32 → Prop} {t : Int32} (h : post (co_isF t)) : wpX_isFunctionType post t := by
  unfold co_isF at h
  unfold wpX_isFunctionType
  rw [co_12]
  exact ⟨(co_ite h).1, fun z => co_ite ((co_ite h).2 z)⟩
theorem co_isF0 {t : Int32} (h : t < 3) : co_isF t = 0 := if_pos h
theorem co_isF1 {t : Int32} (h : ¬ t < 3) (h1 : ¬ co_isT t = 0) : ¬ co_isF t = 0 := by
  unfold co_isF
  unfold co_isT at h1
  rw [if_neg h]
  split at h1
  · exact absurd rfl h1
  · exact h1
theorem co_Xdom {post : Int32 → Prop} {t : Int32} (h : post (co_dom t)) : wpX_domainOf post t := ⟨by decide, h⟩
theorem co_Xrng {post : Int32 → Prop} {t : Int32} (h : post (co_rng t)) : wpX_rangeOf post t := ⟨by decide, h⟩
theorem co_Ydom {post : Int32 → Prop} {u : SY} {t : Int32} (h : post (co_dom t)) : wpY_from post u t := by
  obtain ⟨f1, f2, f3, f4, f5, f6, f7, ar, out⟩ := u
  exact ⟨by decide, h⟩
theorem co_Yrng {post : Int32 → Prop} {u : SY} {t : Int32} (h : post (co_rng t)) : wpY_into post u t := by
  obtain ⟨f1, f2, f3, f4, f5, f6, f7, ar, out⟩ := u
  exact ⟨by decide, h⟩
theorem co_eq1 {a b : Int32} (h : ¬ co_eq a b = 0) : co_eq a b = 1 := (co_eq01 a b).resolve_left h
theorem co_Xagree {post : Int32 → Prop} {u : SX} {s t : Int32} (h : post (co_ag s t)) : wpX_agree post u s t := by
  obtain ⟨vt, vk, vr, lk, lr, ab, rb⟩ := u
  unfold wpX_agree
  dsimp only
  unfold co_ag at h
  refine co_XisT (br_c (fun c1 => ?_) (fun c1 => ?_))
  · rwa [if_pos c1] at h
  rw [if_neg c1] at h
  refine co_XisT (br_c (fun c2 => ?_) (fun c2 => ?_))
  · rwa [if_pos c2] at h
  rw [if_neg c2] at h
  by_cases c3 : s < 3
  · rw [if_pos c3] at h
    exact co_XisF (br_t (co_isF0 c3) (co_Xeq ⟨co_eqNar _ _, h⟩))
  rw [if_neg c3] at h
  refine co_XisF (br_f (co_isF1 c3 c1) ?_)
  by_cases c4 : t < 3
  · rw [if_pos c4] at h
    exact co_XisF (br_t (co_isF0 c4) (co_Xeq ⟨co_eqNar _ _, h⟩))
  rw [if_neg c4] at h
  refine co_XisF (br_f (co_isF1 c4 c2) ?_)
  refine co_Xdom (co_Xdom (co_Xrng (co_Xrng (co_Xeq (br_c (fun c5 => ?_) (fun c5 => ?_))))))
  · rw [if_pos c5] at h
    exact ⟨rfl, h⟩
  rw [if_neg c5] at h
  refine co_Xeq (br_c (fun c6 => ?_) (fun c6 => ?_))
  · rw [c6] at h
    exact ⟨rfl, h⟩
  · rw [co_eq1 c6] at h
    exact ⟨rfl, h⟩
theorem co_Yagree {post : Int32 → Prop} {u : SY} {s t : Int32} (h : post (co_ag s t)) : wpY_agree post u s t := by
  obtain ⟨f1, f2, f3, f4, f5, f6, f7, ar, out⟩ := u
  unfold wpY_agree
  dsimp only
  unfold co_ag at h
  refine co_YisT (br_c (fun c1 => ?_) (fun c1 => ?_))
  · rwa [if_pos c1] at h
  rw [if_neg c1] at h
  refine co_YisT (br_c (fun c2 => ?_) (fun c2 => ?_))
  · rwa [if_pos c2] at h
  rw [if_neg c2] at h
  refine co_Yeq (br_c (fun c => ?_) (fun c => ?_))
  · refine br_c (fun c3 => ?_) (fun c3 => ?_)
    · rw [if_pos c3, c] at h
      exact h
    rw [if_neg c3] at h
    refine br_c (fun c4 => ?_) (fun c4 => ?_)
    · rw [if_pos c4, c] at h
      exact h
    rw [if_neg c4] at h
    refine co_Ydom (co_Ydom (co_Yeq (br_c (fun c5 => ?_) (fun c5 => ?_))))
    · rwa [if_pos c5] at h
    rw [if_neg c5] at h
    refine co_Yrng (co_Yrng (co_Yeq (br_c (fun c6 => ?_) (fun c6 => ?_))))
    · rw [c6] at h
      exact h
    · rw [co_eq1 c6] at h
      exact h
  · by_cases c3 : s < 3
    · rw [if_pos c3, co_eq1 c] at h
      exact h
    rw [if_neg c3] at h
    by_cases c4 : t < 3
    · rw [if_pos c4, co_eq1 c] at h
      exact h
    rw [if_neg c4] at h
    have e : s = t := by
      unfold co_eq at c
      split at c
      · assumption
      · split at c
        · rename_i z
          rw [z] at c3
          exact absurd (by decide) c3
        · split at c
          · rename_i z
            rw [z] at c4
            exact absurd (by decide) c4
          · exact absurd rfl c
    rw [e, co_eqself, co_eqself, if_neg (by decide)] at h
    exact h
theorem co_scan (t vt vk vr lk lr : Int32) (ab rb : Nat → Int32) (f1 f2 f3 f4 f5 f6 f7 : Int32) (ar out : Nat → Int32) : ∀ (d j : Nat) (c : Int32), j + d = 12 → ∃ r : Int32,
    (∀ post : Int32 → Prop, post r → wX_agreeing_14 post t vt vk vr lk lr ab rb (d + 1) c (nI j)) ∧
    (∀ post : Int32 → Prop, ((co_isT t = 0 → post (-100)) ∧ (¬ co_isT t = 0 → post r)) → wY_agreeing_4 post t f1 f2 f3 f4 f5 f6 f7 ar out (d + 1) c (nI j)) := by
  have e12 : nI 12 = 12 := by decide +kernel
  intro d
  induction d with
  | zero =>
    intro j c hj
    have h : (12 : Int32) ≤ nI j := by rw [← e12]; exact nI_le (by omega) (by omega)
    exact ⟨c, fun _ hp => br_t h hp, fun _ hp => br_t h (co_YisT hp)⟩
  | succ d ih =>
    intro j c hj
    have h : ¬ (12 : Int32) ≤ nI j := by rw [← e12]; exact nI_ge (by omega) (by omega)
    by_cases z : co_ag (nI j) t = 0
    · obtain ⟨r, hX, hY⟩ := ih (j + 1) c (by omega)
      refine ⟨r, fun post hp => br_f h (co_Xagree (br_t z fun y ey => ?_)), fun post hp => br_f h (co_Yagree (br_t z fun y ey => ?_))⟩
      · rw [ey, nI_1]; exact hX post hp
      · rw [ey, nI_1]; exact hY post hp
    · obtain ⟨r, hX, hY⟩ := ih (j + 1) (c + 1) (by omega)
      refine ⟨r, fun post hp => br_f h (co_Xagree (br_f z fun x ex y ey => ?_)), fun post hp => br_f h (co_Yagree (br_f z fun x ex y ey => ?_))⟩
      · rw [ex, ey, nI_1]; exact hX post hp
      · rw [ex, ey, nI_1]; exact hY post hp
theorem i_vc_agreeing {k : Nat} {u : SX} {v : SY} (I : i_Rel k u v) (hk : k + 3 ≤ 1536) (v1 : Int32) : wpX_agreeing (fun r => wpY_agreeing (fun r' => r' = r ∧ i_Rel (k + 3) u v) v v1) u v1 := by
  have J := i_up I
  obtain ⟨vt, vk, vr, lk, lr, ab, rb⟩ := u
  obtain ⟨f1, f2, f3, f4, f5, f6, f7, ar, out⟩ := v
  obtain ⟨r, hX, hY⟩ := co_scan v1 vt vk vr lk lr ab rb f1 f2 f3 f4 f5 f6 f7 ar out 12 0 0 rfl
  rw [nI_0] at hX hY
  unfold wpX_agreeing wpY_agreeing
  dsimp only
  refine co_XisT (br_c (fun c => ?_) (fun c => ?_))
  · exact ⟨_, hY _ (br_t c ⟨rfl, J⟩)⟩
  · exact ⟨_, hX _ ⟨_, hY _ (br_f c ⟨rfl, J⟩)⟩⟩
theorem i_vc_agree {k : Nat} {u : SX} {v : SY} (I : i_Rel k u v) (hk : k + 3 ≤ 1536) (v1 : Int32) (v2 : Int32) : wpX_agree (fun r => wpY_agree (fun r' => r' = r ∧ i_Rel (k + 3) u v) v v1 v2) u v1 v2 := co_Xagree (co_Yagree ⟨rfl, i_up I⟩)
