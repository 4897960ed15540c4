/-! cast -/
theorem co_3F : co_F 3 := Or.inl rfl
theorem co_Y78f {post : Int32 → SY → Prop} {t l f1 f2 f3 f4 f5 f6 f7 : Int32} {a b : Nat → Int32} (h : post l (0, f2, f3, f4, f5, f6, f7, a, b)) : wY_cast_78 post t l f1 f2 f3 f4 f5 f6 f7 a b := br_f co_10 h
theorem co_Yarrow {P : Int32 → Prop} {u : SY} (h : P 3) : wpY_arrow P u 0 0 := by
  obtain ⟨f1, f2, f3, f4, f5, f6, f7, ar, out⟩ := u
  have e : (3 : Int32) + 3 * 0 + 0 = 3 := by decide
  unfold wpY_arrow
  dsimp only
  rw [e]
  exact h
theorem co_Y82a {post : Int32 → SY → Prop} {t l f1 f2 f3 typed f5 f6 f7 : Int32} {a b : Nat → Int32} (h1 : typed < 3) (h2 : t < 3)
    (h : post 0 (f1, f2, f3, t, f5, f6, f7, a, b)) : wY_cast_82 post t l f1 f2 f3 typed f5 f6 f7 a b :=
  br_t rfl (br_c (fun _ => br_t h2 (br_t h1 (br_t h1 h))) (fun _ => br_t h1 (br_t h1 h)))
theorem co_Y144 {post : Int32 → SY → Prop} {t l s z f1 f2 f3 f4 f5 f6 f7 : Int32} {a b : Nat → Int32} (hs : co_F s) (hz : co_F z)
    (h : post 0 (f1, f2, f3, t, f5, f6, f7, co_in (co_ask s z) l a, co_out (co_giv s z) l b)) : wY_cast_144 post t l s z f1 f2 f3 f4 f5 f6 f7 a b := by
  unfold wY_cast_144
  exact br_f (co_F_ge hs) (br_f (co_F_ge hz) (co_Ywrap hs hz h))
theorem co_Y82b {post : Int32 → SY → Prop} {t l f1 f2 f3 f5 f6 f7 : Int32} {a b : Nat → Int32} (ht : co_F t)
    (h : post 0 (f1, f2, f3, t, f5, f6, f7, co_in (co_ask 3 t) l a, co_out (co_giv 3 t) l b)) : wY_cast_82 post t l f1 f2 f3 0 f5 f6 f7 a b := by
  have e : (0 : Int32) < 3 := by decide
  unfold wY_cast_82 wY_cast_83
  exact br_t rfl (br_t rfl (br_f (co_F_ge ht) (co_Yarrow (br_t e (co_Y144 co_3F ht h)))))
theorem co_F_n0 {t : Int32} (h : co_F t) : ¬ t = 0 := by
  rcases h with rfl | rfl | rfl | rfl | rfl | rfl | rfl | rfl | rfl <;> decide
theorem co_F_n1 {t : Int32} (h : co_F t) : ¬ t = 1 := by
  rcases h with rfl | rfl | rfl | rfl | rfl | rfl | rfl | rfl | rfl <;> decide
theorem co_F_n2 {t : Int32} (h : co_F t) : ¬ t = 2 := by
  rcases h with rfl | rfl | rfl | rfl | rfl | rfl | rfl | rfl | rfl <;> decide
theorem co_Y82c {post : Int32 → SY → Prop} {l f1 f2 f3 s f5 f6 f7 : Int32} {a b : Nat → Int32} (hs : co_F s)
    (h : post 0 (f1, f2, f3, 0, f5, f6, f7, co_in (co_ask s 3) l a, co_out (co_giv s 3) l b)) : wY_cast_82 post 0 l f1 f2 f3 s f5 f6 f7 a b := by
  unfold wY_cast_82 wY_cast_83 wY_cast_116 wY_cast_120
  exact br_t rfl (br_f (co_F_n0 hs) (br_f (co_F_ge hs) (br_t rfl (co_Yarrow (co_Y144 hs co_3F h)))))
theorem co_Y82d {post : Int32 → SY → Prop} {t l f1 f2 f3 s f5 f6 f7 : Int32} {a b : Nat → Int32} (hs : co_F s) (ht : co_F t)
    (h : post 0 (f1, f2, f3, t, f5, f6, f7, co_in (co_ask s t) l a, co_out (co_giv s t) l b)) : wY_cast_82 post t l f1 f2 f3 s f5 f6 f7 a b := by
  unfold wY_cast_82 wY_cast_83 wY_cast_116 wY_cast_120 wY_cast_143
  exact br_t rfl (br_f (co_F_n0 hs) (br_f (co_F_ge hs) (br_f (co_F_n0 ht) (co_Y144 hs ht h))))
/-- a cast from ANY: the value's kind is the type's, or the type is ANY -/
theorem co_YC0 {post : Int32 → SY → Prop} {t l f1 sort f3 f5 f6 f7 : Int32} {a b : Nat → Int32} (h0 : ¬ f1 = 0) (l1 : ¬ l < 1) (l9 : ¬ 9 < l) (g : ¬ co_ag 0 t = 0) (hc : t = 0 ∨ co_kd t = sort)
    (h : wY_cast_82 post t l f1 sort f3 0 f5 f6 f7 a b) (hT : co_T t) : wpY_cast post (f1, sort, f3, 0, f5, f6, f7, a, b) t l := by
  have k1 : t = 1 → sort = 0 := by
    intro e; rcases hc with c | c
    · rw [c] at e; exact absurd e (by decide)
    · rw [e] at c; exact c.symm
  have k2 : t = 2 → sort = 1 := by
    intro e; rcases hc with c | c
    · rw [c] at e; exact absurd e (by decide)
    · rw [e] at c; exact c.symm
  have k3 : ¬ t < 3 → sort = 2 := by
    intro e
    rcases hT with z | z | z | z
    · rw [z] at e; exact absurd (by decide) e
    · rw [z] at e; exact absurd (by decide) e
    · rw [z] at e; exact absurd (by decide) e
    · have z : co_F t := z
      rcases hc with c | c
      · exact absurd c (co_F_n0 z)
      · rw [← c]
        unfold co_kd
        rw [if_neg (co_F_n1 z), if_neg (co_F_n2 z)]
  have h65 : wY_cast_65 post t l f1 sort f3 0 f5 f6 f7 a b := br_c (fun _ => h) (fun e => br_t (k3 e) h)
  have h52 : wY_cast_52 post t l f1 sort f3 0 f5 f6 f7 a b := br_c (fun e => br_t (k2 e) h65) (fun _ => h65)
  unfold wpY_cast
  dsimp only
  exact br_f h0 (br_f l1 (br_f l9 (co_Yagree (br_f g (br_t rfl (br_c (fun e => br_t (k1 e) h52) (fun _ => h52)))))))
/-- a cast from ANY that fails -/
theorem co_YCf {post : Int32 → SY → Prop} {t l f1 sort f3 f5 f6 f7 : Int32} {a b : Nat → Int32} (h0 : ¬ f1 = 0) (l1 : ¬ l < 1) (l9 : ¬ 9 < l) (g : ¬ co_ag 0 t = 0) (t0 : ¬ t = 0) (hc : ¬ co_kd t = sort)
    (h : post l (0, sort, f3, 0, f5, f6, f7, a, b)) (hT : co_T t) : wpY_cast post (f1, sort, f3, 0, f5, f6, f7, a, b) t l := by
  have k1 : t = 1 → ¬ sort = 0 := by
    intro e z; rw [e, z] at hc; exact hc rfl
  have k2 : t = 2 → ¬ sort = 1 := by
    intro e z; rw [e, z] at hc; exact hc rfl
  have h78 : wY_cast_78 post t l f1 sort f3 0 f5 f6 f7 a b := co_Y78f h
  unfold wpY_cast
  dsimp only
  refine br_f h0 (br_f l1 (br_f l9 (co_Yagree (br_f g (br_t rfl (br_c (fun e => br_f (k1 e) h78) (fun n1 => br_c (fun e => br_f (k2 e) h78) (fun n2 => ?_))))))))
  have z : co_F t := by
    rcases hT with z | z | z | z
    · exact absurd z t0
    · exact absurd z n1
    · exact absurd z n2
    · exact z
  have k3 : ¬ sort = 2 := by
    intro y
    apply hc
    rw [y]
    unfold co_kd
    rw [if_neg n1, if_neg n2]
  exact br_f (co_F_ge z) (br_f k3 h78)
theorem co_YC1 {post : Int32 → SY → Prop} {t l f1 sort f3 typed f5 f6 f7 : Int32} {a b : Nat → Int32} (h0 : ¬ f1 = 0) (l1 : ¬ l < 1) (l9 : ¬ 9 < l) (g : ¬ co_ag typed t = 0) (hn : ¬ typed = 0)
    (h : wY_cast_82 post t l f1 sort f3 typed f5 f6 f7 a b) : wpY_cast post (f1, sort, f3, typed, f5, f6, f7, a, b) t l := by
  unfold wpY_cast
  dsimp only
  exact br_f h0 (br_f l1 (br_f l9 (co_Yagree (br_f g (br_f hn h)))))
theorem co_XC0 {post : Int32 → SX → Prop} {t l vt vk vr lk lr : Int32} {ab rb : Nat → Int32} (nk : ¬ vk = -100) (l1 : ¬ l < 1) (l9 : l ≤ 9) (g : ¬ co_ag vt t = 0) (hc : co_cf vt t vk = 0) (hk : ¬ vk = 2) (h : post 0 (t, vk, vr, lk, lr, ab, rb)) : wpX_cast post (vt, vk, vr, lk, lr, ab, rb) t l := by
  unfold wpX_cast
  dsimp only
  exact br_f nk (br_f l1 (br_t l9 (co_Xagree (br_f g (co_Xcf (br_t hc (br_f hk h)))))))
theorem co_XCf {post : Int32 → SX → Prop} {t l vt vk vr lk lr : Int32} {ab rb : Nat → Int32} (nk : ¬ vk = -100) (l1 : ¬ l < 1) (l9 : l ≤ 9) (g : ¬ co_ag vt t = 0) (hc : ¬ co_cf vt t vk = 0) (h : post l (-100, -100, 0, lk, lr, ab, rb)) : wpX_cast post (vt, vk, vr, lk, lr, ab, rb) t l := by
  unfold wpX_cast
  dsimp only
  refine br_f nk (br_f l1 (br_t l9 (co_Xagree (br_f g (co_Xcf (br_f hc ?_))))))
  exact h
theorem co_XCw {post : Int32 → SX → Prop} {t l vt vr lk lr s z : Int32} {ar rb : Nat → Int32} (l1 : ¬ l < 1) (l9 : l ≤ 9) (g : ¬ co_ag vt t = 0) (hc : co_cf vt t 2 = 0) (hs : co_F s) (hz : co_F z)
    (es : (vt = 0 ∧ s = 3) ∨ (¬ vt = 0 ∧ s = vt)) (ez : (t = 0 ∧ z = 3) ∨ (¬ t = 0 ∧ z = t))
    (h : post 0 (t, 2, vr, lk, lr, co_neg (co_in (co_ask s z) l ar), co_out (co_giv s z) l rb)) : wpX_cast post (vt, 2, vr, lk, lr, co_neg ar, rb) t l := by
  have nk : ¬ (2 : Int32) = -100 := by decide
  unfold wpX_cast
  dsimp only
  refine br_f nk (br_f l1 (br_t l9 (co_Xagree (br_f g (co_Xcf (br_t hc (br_t rfl ?_)))))))
  rcases es with ⟨e, rfl⟩ | ⟨e, rfl⟩
  · refine br_t e ?_
    rcases ez with ⟨f, rfl⟩ | ⟨f, rfl⟩
    · exact br_t f (co_Xwrap hs hz h)
    · exact br_f f (co_Xwrap hs hz h)
  · refine br_f e ?_
    rcases ez with ⟨f, rfl⟩ | ⟨f, rfl⟩
    · exact br_t f (co_Xwrap hs hz h)
    · exact br_f f (co_Xwrap hs hz h)
