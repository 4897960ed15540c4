/-! wrap: both sides against one picture -/
def co_kd (q : Int32) : Int32 := if q = 1 then 0 else if q = 2 then 1 else 2
def co_cf (p q k : Int32) : Int32 := if p = 0 then (if q = 0 then 0 else (if co_kd q = k then 0 else 1)) else 0
theorem co_Xkd {post : Int32 → Prop} {q : Int32} (h : post (co_kd q)) : wpX_kindOfType post q := by
  unfold co_kd at h
  exact ⟨(co_ite h).1, fun z => co_ite ((co_ite h).2 z)⟩
theorem co_Xcf {post : Int32 → Prop} {p q k : Int32} (h : post (co_cf p q k)) : wpX_castFails post p q k := by
  unfold co_cf at h
  exact ⟨fun z => ⟨(co_ite ((co_ite h).1 z)).1, fun y => co_Xkd (co_ite ((co_ite ((co_ite h).1 z)).2 y))⟩, (co_ite h).2⟩
def co_bf (g k : Int32) : Int32 := if g ≤ 0 then 0 else if g = k + 1 then 0 else 1
/-- the arguments' blames behind a wrapping that asks for q (0: for nothing) -/
def co_in (q l : Int32) (a : Nat → Int32) : Nat → Int32 := if q = 1 then upd a 1 l else if q = 2 then upd a 0 l else a
/-- the results' blames behind a wrapping that gives g (0: anything) -/
def co_out (g l : Int32) (b : Nat → Int32) : Nat → Int32 :=
  if g = 1 then (if b 1 = 0 then upd b 1 l else b) else if g = 2 then (if b 0 = 0 then upd b 0 l else b) else b
theorem co_in_lab {q l : Int32} {a : Nat → Int32} (h : co_Lab a) (h0 : ¬ l < 0) (h9 : l ≤ 9) : co_Lab (co_in q l a) := by
  unfold co_in
  split
  · exact co_lab_upd h 1 h0 h9
  · split
    · exact co_lab_upd h 0 h0 h9
    · exact h
theorem co_out_lab {g l : Int32} {b : Nat → Int32} (h : co_Lab b) (h0 : ¬ l < 0) (h9 : l ≤ 9) : co_Lab (co_out g l b) := by
  unfold co_out
  split
  · split
    · exact co_lab_upd h 1 h0 h9
    · exact h
  · split
    · split
      · exact co_lab_upd h 0 h0 h9
      · exact h
    · exact h
def co_pick (p q : Int32) : Int32 := if p = 0 then q else 0
theorem co_pick3 {p q : Int32} (h : co_3 q) : co_3 (co_pick p q) := by
  unfold co_pick
  split
  · exact h
  · exact Or.inl rfl
/-- X's step of the loop of wrap -/
theorem co_Xstep {post : SX → Prop} {l p q r w vt vk vr lk lr : Int32} {n : Nat} {i : Int32} {a b : Nat → Int32} (hi : vp_in i 2) (h2 : ¬ 2 ≤ i)
    (h : wX_wrap_27 post l p q r w vt vk vr lk lr n (i + 1) (if co_cf p q i = 0 then a else upd a i.toNatClampNeg (-l))
      (if b i.toNatClampNeg = 0 then (if co_cf r w i = 0 then b else upd b i.toNatClampNeg l) else b)) :
    wX_wrap_27 post l p q r w vt vk vr lk lr (n + 1) i a b := by
  refine br_f h2 (co_Xcf (br_c (fun c => ?_) (fun c => ?_)))
  · rw [if_pos c] at h
    refine ⟨hi, br_c (fun d => ?_) (fun d => nm_e ?_)⟩
    · rw [if_pos d] at h
      refine co_Xcf (br_c (fun e => nm_e ?_) (fun e => ⟨hi, nm_e (nm_e ?_)⟩))
      · rwa [if_pos e] at h
      · rwa [if_neg e] at h
    · rwa [if_neg d] at h
  · rw [if_neg c] at h
    refine ⟨hi, nm_e ⟨hi, br_c (fun d => ?_) (fun d => nm_e ?_)⟩⟩
    · rw [if_pos d] at h
      refine co_Xcf (br_c (fun e => nm_e ?_) (fun e => ⟨hi, nm_e (nm_e ?_)⟩))
      · rwa [if_pos e] at h
      · rwa [if_neg e] at h
    · rwa [if_neg d] at h
theorem co_inX {p q l : Int32} (a : Nat → Int32) (hq : co_3 q) :
    (if co_cf p q 1 = 0 then (if co_cf p q 0 = 0 then co_neg a else upd (co_neg a) 0 (-l)) else upd (if co_cf p q 0 = 0 then co_neg a else upd (co_neg a) 0 (-l)) 1 (-l)) = co_neg (co_in (co_pick p q) l a) := by
  by_cases hp : p = 0
  · rcases hq with rfl | rfl | rfl <;> simp [hp, co_cf, co_kd, co_in, co_pick, co_upd_neg]
  · simp [hp, co_cf, co_in, co_pick]
theorem co_outX {r w l : Int32} (b : Nat → Int32) (hw : co_3 w) {b0 : Nat → Int32} (e : b0 = if b 0 = 0 then (if co_cf r w 0 = 0 then b else upd b 0 l) else b) :
    (if b0 1 = 0 then (if co_cf r w 1 = 0 then b0 else upd b0 1 l) else b0) = co_out (co_pick r w) l b := by
  by_cases hr : r = 0
  · rcases hw with rfl | rfl | rfl
    · have e' : b0 = b := by rw [e]; simp [hr, co_cf]
      rw [e']; simp [hr, co_cf, co_out, co_pick]
    · have e' : b0 = b := by rw [e]; simp [hr, co_cf, co_kd]
      rw [e']; simp [hr, co_cf, co_kd, co_out, co_pick]
    · have e' : b0 = if b 0 = 0 then upd b 0 l else b := by rw [e]; simp [hr, co_cf, co_kd]
      have e'' : co_cf r 2 1 = 0 := by simp [hr, co_cf, co_kd]
      rw [e'', if_pos rfl, ite_self, e']; simp [hr, co_out, co_pick]
  · have e' : b0 = b := by rw [e]; simp [hr, co_cf]
    rw [e']; simp [hr, co_cf, co_out, co_pick]
def co_ask (s t : Int32) : Int32 := co_pick (co_dom t) (co_dom s)
def co_giv (s t : Int32) : Int32 := co_pick (co_rng s) (co_rng t)
theorem co_Xwrap {post : SX → Prop} {vt vk vr lk lr s t l : Int32} {ar rb : Nat → Int32} (hs : co_F s) (ht : co_F t)
    (h : post (vt, vk, vr, lk, lr, co_neg (co_in (co_ask s t) l ar), co_out (co_giv s t) l rb)) :
    wpX_wrap post (vt, vk, vr, lk, lr, co_neg ar, rb) s t l := by
  unfold wpX_wrap
  dsimp only
  refine co_Xdom (co_Xdom (co_Xrng (co_Xrng ⟨3, ?_⟩)))
  refine co_Xstep co_i0 co_n0 ?_
  rw [co_p0, co_c0]
  refine co_Xstep co_i1 co_n1 ?_
  rw [co_p1, co_c1]
  refine br_t co_n2 ?_
  rw [co_inX ar (co_F_dom hs), co_outX rb (co_F_rng ht) rfl]
  exact h
/-- Y's step of the loop of wrap -/
theorem co_Y78 {post : SY → Prop} {J : Int32 → (Nat → Int32) → (Nat → Int32) → Prop} {l q g i z0 f1 f2 f3 f4 f5 f6 f7 : Int32} {a b : Nat → Int32} (hi : vp_in i 2)
    (h : J (i + 1) (upd a i.toNatClampNeg z0) (if co_bf g i = 0 then b else if b i.toNatClampNeg = 0 then upd b i.toNatClampNeg l else b)) :
    wY_wrap_78 post J l q g i z0 i f1 f2 f3 f4 f5 f6 f7 a b := by
  refine ⟨hi, nm_e (br_c (fun c => ?_) (fun c => ?_))⟩
  · have e : co_bf g i = 0 := if_pos c
    rw [if_pos e] at h
    exact ⟨hi, hi, nm_r (co_upd_self b _) (nm_e h)⟩
  · refine br_c (fun d => ?_) (fun d => ?_)
    · have e : co_bf g i = 0 := by unfold co_bf; rw [if_neg c, if_pos d]
      rw [if_pos e] at h
      exact ⟨hi, hi, nm_r (co_upd_self b _) (nm_e h)⟩
    · have e : ¬ co_bf g i = 0 := by unfold co_bf; rw [if_neg c, if_neg d]; decide
      rw [if_neg e] at h
      refine ⟨hi, br_c (fun f => ?_) (fun f => ?_)⟩
      · rw [if_pos f] at h
        exact ⟨hi, nm_e (nm_e h)⟩
      · rw [if_neg f] at h
        exact ⟨hi, hi, nm_r (co_upd_self b _) (nm_e h)⟩
theorem co_Ystep {post : SY → Prop} {l q g f1 f2 f3 f4 f5 f6 f7 : Int32} {n : Nat} {i : Int32} {a b : Nat → Int32} (hi : vp_in i 2) (h2 : ¬ 2 ≤ i)
    (h : wY_wrap_41 post l q g f1 f2 f3 f4 f5 f6 f7 n (i + 1) (if co_bf q i = 0 then a else upd a i.toNatClampNeg l)
      (if co_bf g i = 0 then b else if b i.toNatClampNeg = 0 then upd b i.toNatClampNeg l else b)) :
    wY_wrap_41 post l q g f1 f2 f3 f4 f5 f6 f7 (n + 1) i a b := by
  refine br_f h2 (br_c (fun c => ?_) (fun c => ?_))
  · have e : co_bf q i = 0 := if_pos c
    rw [if_pos e] at h
    refine ⟨hi, co_Y78 hi ?_⟩
    rw [co_upd_self]
    exact h
  · refine br_c (fun d => ?_) (fun d => ?_)
    · have e : co_bf q i = 0 := by unfold co_bf; rw [if_neg c, if_pos d]
      rw [if_pos e] at h
      refine ⟨hi, co_Y78 hi ?_⟩
      rw [co_upd_self]
      exact h
    · have e : ¬ co_bf q i = 0 := by unfold co_bf; rw [if_neg c, if_neg d]; decide
      rw [if_neg e] at h
      exact co_Y78 hi h
theorem co_b00 : co_bf 0 0 = 0 := by decide
theorem co_b10 : co_bf 1 0 = 0 := by decide
theorem co_b20 : co_bf 2 0 = 1 := by decide
theorem co_b01 : co_bf 0 1 = 0 := by decide
theorem co_b11 : co_bf 1 1 = 1 := by decide
theorem co_b21 : co_bf 2 1 = 0 := by decide
theorem co_inY {q l : Int32} (a : Nat → Int32) (hq : co_3 q) :
    (if co_bf q 1 = 0 then (if co_bf q 0 = 0 then a else upd a 0 l) else upd (if co_bf q 0 = 0 then a else upd a 0 l) 1 l) = co_in q l a := by
  rcases hq with rfl | rfl | rfl <;> simp [co_b00, co_b10, co_b20, co_b01, co_b11, co_b21, co_in]
theorem co_outY {g l : Int32} (b : Nat → Int32) (hg : co_3 g) {b0 : Nat → Int32} (e : b0 = if co_bf g 0 = 0 then b else if b 0 = 0 then upd b 0 l else b) :
    (if co_bf g 1 = 0 then b0 else if b0 1 = 0 then upd b0 1 l else b0) = co_out g l b := by
  rcases hg with rfl | rfl | rfl
  · rw [co_b01, if_pos rfl, e, co_b00, if_pos rfl]; simp [co_out]
  · have e' : b0 = b := by rw [e, co_b10, if_pos rfl]
    rw [co_b11, e']; simp [co_out]
  · rw [co_b21, if_pos rfl, e, co_b20]; simp [co_out]
theorem co_Yloop {post : SY → Prop} {l q g f1 f2 f3 f4 f5 f6 f7 : Int32} {a b : Nat → Int32} (hq : co_3 q) (hg : co_3 g)
    (h : post (f1, f2, f3, f4, f5, f6, f7, co_in q l a, co_out g l b)) :
    ∃ n : Nat, wY_wrap_41 post l q g f1 f2 f3 f4 f5 f6 f7 n 0 a b := by
  refine ⟨3, ?_⟩
  refine co_Ystep co_i0 co_n0 ?_
  rw [co_p0, co_c0]
  refine co_Ystep co_i1 co_n1 ?_
  rw [co_p1, co_c1]
  refine br_t co_n2 ?_
  rw [co_inY a hq, co_outY b hg rfl]
  exact h
theorem co_Ywrap17 {post : SY → Prop} {f1 f2 f3 f4 f5 f6 f7 s t l q : Int32} {a b : Nat → Int32} (hq : co_3 q) (ht : co_F t)
    (h : post (f1, f2, f3, f4, f5, f6, f7, co_in q l a, co_out (co_giv s t) l b)) :
    wY_wrap_17 post s t l q f1 f2 f3 f4 f5 f6 f7 a b := by
  refine co_Yrng (br_c (fun c => ?_) (fun c => ?_))
  · have e : co_giv s t = co_rng t := if_pos c
    rw [e] at h
    exact co_Yrng (co_Yloop hq (co_F_rng ht) h)
  · have e : co_giv s t = 0 := if_neg c
    rw [e] at h
    exact co_Yloop hq (Or.inl rfl) h
theorem co_Ywrap {post : SY → Prop} {f1 f2 f3 f4 f5 f6 f7 s t l : Int32} {a b : Nat → Int32} (hs : co_F s) (ht : co_F t)
    (h : post (f1, f2, f3, f4, f5, f6, f7, co_in (co_ask s t) l a, co_out (co_giv s t) l b)) :
    wpY_wrap post (f1, f2, f3, f4, f5, f6, f7, a, b) s t l := by
  unfold wpY_wrap
  dsimp only
  refine co_Ydom (br_c (fun c => ?_) (fun c => ?_))
  · have e : co_ask s t = co_dom s := if_pos c
    rw [e] at h
    exact co_Ydom (co_Ywrap17 (co_F_dom hs) ht h)
  · have e : co_ask s t = 0 := if_neg c
    rw [e] at h
    exact co_Ywrap17 (Or.inl rfl) ht h
