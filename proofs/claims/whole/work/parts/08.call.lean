/-! call -/
def co_arg (k n : Int32) : Int32 := if k = 0 then 1 else (if k = 1 then (if n = 0 then 1 else (if n = 1 then 1 else 0)) else 0)
theorem co_Xarg {post : Int32 → Prop} {k n : Int32} (h : post (co_arg k n)) : wpX_isArgument post k n := by
  unfold co_arg at h
  exact ⟨(co_ite h).1, fun z => ⟨fun y => ⟨(co_ite ((co_ite ((co_ite h).2 z)).1 y)).1, fun x => co_ite ((co_ite ((co_ite ((co_ite h).2 z)).1 y)).2 x)⟩, (co_ite ((co_ite h).2 z)).2⟩⟩
theorem co_arg01 {k n : Int32} (h : ¬ co_arg k n = 0) : k = 0 ∨ k = 1 := by
  unfold co_arg at h
  split at h
  · rename_i z; exact Or.inl z
  · split at h
    · rename_i z; exact Or.inr z
    · exact absurd rfl h
theorem co_Ycall {post : Int32 → SY → Prop} {k n f1 f2 f3 f4 f5 f6 f7 : Int32} {a b : Nat → Int32} (h : wY_call_23 post k n (co_arg k n) f1 f2 f3 f4 f5 f6 f7 a b) : wpY_call post (f1, f2, f3, f4, f5, f6, f7, a, b) k n := by
  unfold co_arg at h
  unfold wpY_call wY_call_18 wY_call_22
  dsimp only
  by_cases k0 : k = 0
  · rw [if_pos k0] at h
    exact br_t k0 h
  rw [if_neg k0] at h
  by_cases k1 : k = 1
  · rw [if_pos k1] at h
    by_cases n0 : n = 0
    · rw [if_pos n0] at h
      exact br_f k0 (br_t k1 (br_t n0 h))
    rw [if_neg n0] at h
    by_cases n1 : n = 1
    · rw [if_pos n1] at h
      exact br_f k0 (br_t k1 (br_f n0 (br_t n1 h)))
    · rw [if_neg n1] at h
      exact br_f k0 (br_t k1 (br_f n0 (br_f n1 h)))
  · rw [if_neg k1] at h
    exact br_f k0 (br_f k1 h)
def co_rk (f k : Int32) : Int32 := if f = 1 then k else if f = 2 then 1 else if f = 3 then 1 else 0
def co_rv (f n : Int32) : Int32 := if f = 0 then n + 1 else if f = 1 then n else if f = 2 then 1 - n else if f = 3 then (if n ≤ 0 then 0 else 1) else if f = 4 then 7 else n
theorem co_Xrk {P : Int32 → Prop} {vt vk f lk lr k : Int32} {ab rb : Nat → Int32} (hf : co_6 f) (h : P (co_rk f k)) : wpX_innermostResultKind P (vt, vk, f, lk, lr, ab, rb) k := by
  rcases hf with rfl | rfl | rfl | rfl | rfl | rfl <;> simpa [wpX_innermostResultKind, co_rk] using h
theorem co_Xrv {P : Int32 → Prop} {vt vk f lk lr n : Int32} {ab rb : Nat → Int32} (hf : co_6 f) (h : P (co_rv f n)) : wpX_innermostResult P (vt, vk, f, lk, lr, ab, rb) n := by
  rcases hf with rfl | rfl | rfl | rfl | rfl | rfl
  · simpa [wpX_innermostResult, co_rv] using h
  · simpa [wpX_innermostResult, co_rv] using h
  · simpa [wpX_innermostResult, co_rv] using h
  · have e : co_rv 3 n = if n ≤ 0 then 0 else 1 := rfl
    rw [e] at h
    have a : ¬ (3 : Int32) < 0 := by decide
    have b : ¬ (4 : Int32) < 3 := by decide
    have c0 : ¬ (3 : Int32) = 0 := by decide
    have c1 : ¬ (3 : Int32) = 1 := by decide
    have c2 : ¬ (3 : Int32) = 2 := by decide
    exact br_f a (br_f b (br_f c0 (br_f c1 (br_f c2 (br_t rfl (co_ite h))))))
  · simpa [wpX_innermostResult, co_rv] using h
  · simpa [wpX_innermostResult, co_rv] using h
theorem co_Y121 {post : Int32 → SY → Prop} {n z f1 f2 f f4 f5 f6 f7 : Int32} {a b : Nat → Int32} (hf : co_6 f) (h : wY_call_192 post z (co_rv f n) f1 f2 f f4 f5 f6 f7 a b) : wY_call_121 post n z f1 f2 f f4 f5 f6 f7 a b := by
  rcases hf with rfl | rfl | rfl | rfl | rfl | rfl
  · simpa [wY_call_121, wY_call_152, co_rv] using h
  · simpa [wY_call_121, wY_call_152, co_rv] using h
  · simpa [wY_call_121, wY_call_152, co_rv] using h
  · have e : co_rv 3 n = if n ≤ 0 then 0 else 1 := rfl
    rw [e] at h
    have c0 : ¬ (3 : Int32) = 0 := by decide
    have c1 : ¬ (3 : Int32) = 1 := by decide
    have c5 : ¬ (3 : Int32) = 5 := by decide
    have c2 : ¬ (3 : Int32) = 2 := by decide
    exact br_f c0 (br_f c1 (br_f c5 (br_f c2 (br_t rfl (co_ite (post := fun x => wY_call_192 post z x f1 f2 3 f4 f5 f6 f7 a b) h)))))
  · simpa [wY_call_121, wY_call_152, co_rv] using h
  · simpa [wY_call_121, wY_call_152, co_rv] using h
theorem co_rk01 {f k : Int32} (hk : k = 0 ∨ k = 1) : co_rk f k = 0 ∨ co_rk f k = 1 := by
  unfold co_rk
  split
  · exact hk
  · split
    · exact Or.inr rfl
    · split
      · exact Or.inr rfl
      · exact Or.inl rfl
theorem co_in01 {k : Int32} (hk : k = 0 ∨ k = 1) : vp_in k 2 := by
  rcases hk with rfl | rfl
  · exact co_i0
  · exact co_i1
theorem co_Y71 {post : Int32 → SY → Prop} {k n f1 f2 f f4 f5 f6 f7 : Int32} {a b : Nat → Int32} (hk : k = 0 ∨ k = 1) (hf : co_6 f) (hz : a k.toNatClampNeg ≤ 0)
    (h : wY_call_192 post (co_rk f k) (co_rv f n) f1 f2 f f4 f5 f6 f7 a b) : wY_call_71 post k n f1 f2 f f4 f5 f6 f7 a b := by
  refine ⟨co_in01 hk, br_t hz ?_⟩
  unfold co_rk at h
  by_cases c1 : f = 1
  · rw [if_pos c1] at h
    exact br_t c1 (co_Y121 hf h)
  rw [if_neg c1] at h
  refine br_f c1 ?_
  by_cases c2 : f = 2
  · rw [if_pos c2] at h
    exact br_t c2 (co_Y121 hf h)
  rw [if_neg c2] at h
  refine br_f c2 ?_
  by_cases c3 : f = 3
  · rw [if_pos c3] at h
    exact br_t c3 (co_Y121 hf h)
  rw [if_neg c3] at h
  exact br_f c3 (co_Y121 hf h)
/-- behind the checks: both sides -/
theorem co_call44 {Q : Int32 → SX → Prop} {K : Nat} {k n so f typed lk lr called kr yr : Int32} {ar out : Nat → Int32} (hk : k = 0 ∨ k = 1) (hf : co_6 f) (h0 : ¬ so = 0) (hT : co_F typed) (hR : co_Res lk lr called kr yr) (hA : co_Lab ar) (hO : co_Lab out)
    (hQ : ∀ (r : Int32) (u' : SX), wY_call_71 (fun r' v' => r' = r ∧ i_Rel K u' v') k n so 2 f typed called kr yr ar out → Q r u') :
    wX_call_44 Q k n typed 2 f lk lr (co_neg ar) out := by
  have hi := co_in01 hk
  have hr := co_in01 (co_rk01 (f := f) hk)
  have fit : co_Fit 2 f typed := Or.inr (Or.inr ⟨rfl, Or.inr hT, hf⟩)
  have J : i_Rel K (typed, 2, f, lk, lr, co_neg ar, out) (so, 2, f, typed, called, kr, yr, ar, out) := co_mkV h0 fit hR hA hO
  refine ⟨hi, br_c (fun c => ?_) (fun c => ?_)⟩
  · have c' : ar k.toNatClampNeg ≤ 0 := (co_le0 hA _).mpr ((co_neg_eq ar _).mp c)
    refine co_Xrk hf ⟨hr, br_c (fun d => ?_) (fun d => ?_)⟩
    · have d' := (co_le0 hO _).mpr d
      exact co_Xrv hf (hQ _ _ (co_Y71 hk hf c' ⟨hr, br_t d' ⟨rfl, co_mkV h0 fit (Or.inr ⟨co_10, rfl, rfl⟩) hA hO⟩⟩))
    · have d' : ¬ out (co_rk f k).toNatClampNeg ≤ 0 := fun z => d ((co_le0 hO _).mp z)
      exact ⟨hr, hQ _ _ (co_Y71 hk hf c' ⟨hr, br_f d' ⟨hr, rfl, J⟩⟩)⟩
  · have c' : ¬ ar k.toNatClampNeg ≤ 0 := fun z => c ((co_neg_eq ar _).mpr ((co_le0 hA _).mp z))
    exact ⟨hi, hQ _ _ ⟨hi, br_f c' ⟨hi, rfl, J⟩⟩⟩
theorem co_kd_dom {q k : Int32} (hq : co_3 q) (h0 : ¬ q = 0) (hk : k = 0 ∨ k = 1) : co_kd q = k ↔ q = k + 1 := by
  rcases hq with rfl | rfl | rfl
  · exact absurd rfl h0
  · rcases hk with rfl | rfl <;> decide
  · rcases hk with rfl | rfl <;> decide
theorem co_isFn {t : Int32} (h : co_F t) : ¬ co_isF t = 0 := by
  unfold co_isF
  rw [if_neg (co_F_ge h), if_neg (co_F_le h)]
  decide
theorem co_FitF {sort value typed : Int32} (h : co_Fit sort value typed) (h3 : ¬ typed < 3) : sort = 2 ∧ co_F typed ∧ co_6 value := by
  rcases h with ⟨_, z | z⟩ | ⟨_, z | z⟩ | ⟨e, z | z, v⟩
  · rw [z] at h3; exact absurd (by decide) h3
  · rw [z] at h3; exact absurd (by decide) h3
  · rw [z] at h3; exact absurd (by decide) h3
  · rw [z] at h3; exact absurd (by decide) h3
  · rw [z] at h3; exact absurd (by decide) h3
  · exact ⟨e, z, v⟩
theorem i_vc_call {k : Nat} {u : SX} {v : SY} (I : i_Rel k u v) (hk : k + 3 ≤ 1536) (v1 : Int32) (v2 : Int32) : wpX_call (fun r u' => wpY_call (fun r' v' => r' = r ∧ i_Rel (k + 3) u' v') v v1 v2) u v1 v2 := by
  have J := i_up I
  obtain ⟨vt, vk, vr, lk, lr, so, sort, value, typed, called, kr, yr, ar, out, rfl, rfl, hV, hR, hA, hO⟩ := I
  unfold wpX_call
  dsimp only
  rcases hV with ⟨h0, h1, h2, h3⟩ | ⟨h0, h1, h2, h3, hF⟩
  · have e : co_isF vt = 0 := by rw [h1]; decide
    exact co_XisF (br_t e (co_Ycall (br_t h0 ⟨rfl, J⟩)))
  cases h1
  cases h2
  cases h3
  by_cases t3 : vt < 3
  · exact co_XisF (br_t (co_isF0 t3) (co_Ycall (br_f h0 (br_t t3 ⟨rfl, J⟩))))
  obtain ⟨e, hT, hv⟩ := co_FitF hF t3
  cases e
  refine co_XisF (br_f (co_isFn hT) (co_Xarg (br_c (fun c => ?_) (fun c => ?_))))
  · exact co_Ycall (br_f h0 (br_f t3 (br_t c ⟨rfl, J⟩)))
  have hk1 := co_arg01 c
  refine co_Xdom (br_c (fun d => ?_) (fun d => ?_))
  · exact co_call44 hk1 hv h0 hT hR hA hO (fun r u' y => co_Ycall (br_f h0 (br_f t3 (br_f c (co_Ydom (br_t d y))))))
  · have q := co_kd_dom (co_F_dom hT) d hk1
    refine co_Xkd (br_c (fun e => ?_) (fun e => ?_))
    · exact co_call44 hk1 hv h0 hT hR hA hO (fun r u' y => co_Ycall (br_f h0 (br_f t3 (br_f c (co_Ydom (br_f d (co_Ydom (br_t (q.mp e) y))))))))
    · exact co_Ycall (br_f h0 (br_f t3 (br_f c (co_Ydom (br_f d (co_Ydom (br_f (fun z => e (q.mpr z)) ⟨rfl, J⟩)))))))
