/-! cast: the owed statement -/
theorem co_lab_n0 {l : Int32} (h : ¬ l < 1) : ¬ l < 0 := by
  intro z
  exact h (Int32.lt_trans z (by decide))
theorem co_ag_F1 {s : Int32} (h : co_F s) : co_ag s 1 = 0 := by
  rcases h with rfl | rfl | rfl | rfl | rfl | rfl | rfl | rfl | rfl <;> decide
theorem co_ag_F2 {s : Int32} (h : co_F s) : co_ag s 2 = 0 := by
  rcases h with rfl | rfl | rfl | rfl | rfl | rfl | rfl | rfl | rfl <;> decide
theorem co_ag_1F {t : Int32} (h : co_F t) : co_ag 1 t = 0 := by
  rcases h with rfl | rfl | rfl | rfl | rfl | rfl | rfl | rfl | rfl <;> decide
theorem co_ag_2F {t : Int32} (h : co_F t) : co_ag 2 t = 0 := by
  rcases h with rfl | rfl | rfl | rfl | rfl | rfl | rfl | rfl | rfl <;> decide
theorem co_kd_F {t : Int32} (h : co_F t) : co_kd t = 2 := by
  unfold co_kd; rw [if_neg (co_F_n1 h), if_neg (co_F_n2 h)]
theorem co_cf0 {t k : Int32} (h : ¬ t = 0) (hk : ¬ co_kd t = k) : ¬ co_cf 0 t k = 0 := by
  unfold co_cf; rw [if_pos rfl, if_neg h, if_neg hk]; decide
theorem co_cf1 {t k : Int32} (hk : co_kd t = k) : co_cf 0 t k = 0 := by
  unfold co_cf; rw [if_pos rfl, if_pos hk, ite_self]
theorem co_cf2 {s t k : Int32} (h : ¬ s = 0) : co_cf s t k = 0 := if_neg h
/-- a number or a truth: its own type is o -/
theorem co_castS {k : Nat} {o so sort value typed lk lr called kr yr t l : Int32} {ar out : Nat → Int32} (h0 : ¬ so = 0) (hR : co_Res lk lr called kr yr) (hA : co_Lab ar) (hO : co_Lab out)
    (l1 : ¬ l < 1) (l9 : ¬ 9 < l) (g : ¬ co_ag typed t = 0) (ho : (sort = 0 ∧ o = 1) ∨ (sort = 1 ∧ o = 2)) (hty : typed = 0 ∨ typed = o) :
    wpX_cast (fun r u' => wpY_cast (fun r' v' => r' = r ∧ i_Rel k u' v') (so, sort, value, typed, called, kr, yr, ar, out) t l) (typed, sort, value, lk, lr, co_neg ar, out) t l := by
  have l9' : l ≤ 9 := Int32.not_lt.mp l9
  have nk : ¬ sort = -100 := by rcases ho with ⟨e, _⟩ | ⟨e, _⟩ <;> rw [e] <;> decide
  have n2 : ¬ sort = 2 := by rcases ho with ⟨e, _⟩ | ⟨e, _⟩ <;> rw [e] <;> decide
  have o0 : ¬ o = 0 := by rcases ho with ⟨_, e⟩ | ⟨_, e⟩ <;> rw [e] <;> decide
  have o3 : o < 3 := by rcases ho with ⟨_, e⟩ | ⟨_, e⟩ <;> rw [e] <;> decide
  have ok : co_kd o = sort := by rcases ho with ⟨f, e⟩ | ⟨f, e⟩ <;> rw [e, f] <;> decide
  have z3 : (0 : Int32) < 3 := by decide
  have hT := (co_ag_T g).2
  have fit : ∀ x : Int32, x = 0 ∨ x = o → co_Fit sort value x := by
    intro x hx
    rcases ho with ⟨e, f⟩ | ⟨e, f⟩
    · rw [f] at hx; exact Or.inl ⟨e, hx⟩
    · rw [f] at hx; exact Or.inr (Or.inl ⟨e, hx⟩)
  rcases hty with rfl | rfl
  · by_cases t0 : t = 0
    · rw [t0] at g hT ⊢
      exact co_XC0 nk l1 l9' g (by unfold co_cf; rw [if_pos rfl, if_pos rfl]) n2 (co_YC0 h0 l1 l9 g (Or.inl rfl) (co_Y82a z3 z3 ⟨rfl, co_mkV h0 (fit 0 (Or.inl rfl)) hR hA hO⟩) hT)
    by_cases c : co_kd t = sort
    · have e : t = o := by
        rcases ho with ⟨f, e⟩ | ⟨f, e⟩
        · rw [f] at c
          rw [e]
          unfold co_kd at c
          split at c
          · assumption
          · split at c
            · exact absurd c (by decide)
            · exact absurd c (by decide)
        · rw [f] at c
          rw [e]
          unfold co_kd at c
          split at c
          · exact absurd c (by decide)
          · split at c
            · assumption
            · exact absurd c (by decide)
      rw [e] at g hT c ⊢
      exact co_XC0 nk l1 l9' g (co_cf1 c) n2 (co_YC0 h0 l1 l9 g (Or.inr c) (co_Y82a z3 o3 ⟨rfl, co_mkV h0 (fit o (Or.inr rfl)) hR hA hO⟩) hT)
    · exact co_XCf nk l1 l9' g (co_cf0 t0 c) (co_YCf h0 l1 l9 g t0 c ⟨rfl, co_mk0 hR hA hO⟩ hT)
  · have ht : t = 0 ∨ t = typed := by
      rcases ho with ⟨_, e⟩ | ⟨_, e⟩
      · rw [e] at g ⊢
        rcases hT with z | z | z | z
        · exact Or.inl z
        · exact Or.inr z
        · rw [z] at g; exact absurd (by decide) g
        · exact absurd (co_ag_1F z) g
      · rw [e] at g ⊢
        rcases hT with z | z | z | z
        · exact Or.inl z
        · rw [z] at g; exact absurd (by decide) g
        · exact Or.inr z
        · exact absurd (co_ag_2F z) g
    have t3 : t < 3 := by
      rcases ht with z | z
      · rw [z]; exact z3
      · rw [z]; exact o3
    exact co_XC0 nk l1 l9' g (co_cf2 o0) n2 (co_YC1 h0 l1 l9 g o0 (co_Y82a o3 t3 ⟨rfl, co_mkV h0 (fit t ht) hR hA hO⟩))
/-- a function -/
theorem co_castF {k : Nat} {so value typed lk lr called kr yr t l : Int32} {ar out : Nat → Int32} (h0 : ¬ so = 0) (hR : co_Res lk lr called kr yr) (hA : co_Lab ar) (hO : co_Lab out)
    (l1 : ¬ l < 1) (l9 : ¬ 9 < l) (g : ¬ co_ag typed t = 0) (hty : typed = 0 ∨ co_F typed) (hv : co_6 value) :
    wpX_cast (fun r u' => wpY_cast (fun r' v' => r' = r ∧ i_Rel k u' v') (so, 2, value, typed, called, kr, yr, ar, out) t l) (typed, 2, value, lk, lr, co_neg ar, out) t l := by
  have l9' : l ≤ 9 := Int32.not_lt.mp l9
  have l0 := co_lab_n0 l1
  have nk : ¬ (2 : Int32) = -100 := by decide
  have z3 : (0 : Int32) < 3 := by decide
  have hT := (co_ag_T g).2
  have fit : ∀ x : Int32, x = 0 ∨ co_F x → co_Fit 2 value x := fun x hx => Or.inr (Or.inr ⟨rfl, hx, hv⟩)
  have wr : ∀ s z x : Int32, x = 0 ∨ co_F x → i_Rel k (x, 2, value, lk, lr, co_neg (co_in (co_ask s z) l ar), co_out (co_giv s z) l out) (so, 2, value, x, called, kr, yr, co_in (co_ask s z) l ar, co_out (co_giv s z) l out) :=
    fun s z x hx => co_mkV h0 (fit x hx) hR (co_in_lab hA l0 l9') (co_out_lab hO l0 l9')
  rcases hty with rfl | hs
  · have hT' := hT
    rcases hT with rfl | rfl | rfl | ht
    · have e1 : co_ask 3 3 = 0 := by decide
      have e2 : co_giv 3 3 = 0 := by decide
      have e3 : co_in 0 l ar = ar := by simp [co_in]
      have e4 : co_out 0 l out = out := by simp [co_out]
      refine co_XCw l1 l9' g (by decide) co_3F co_3F (Or.inl ⟨rfl, rfl⟩) (Or.inl ⟨rfl, rfl⟩) ?_
      rw [e1, e2, e3, e4]
      exact co_YC0 h0 l1 l9 g (Or.inl rfl) (co_Y82a z3 z3 ⟨rfl, co_mkV h0 (fit 0 (Or.inl rfl)) hR hA hO⟩) hT'
    · have c : ¬ co_kd 1 = 2 := by decide
      exact co_XCf nk l1 l9' g (co_cf0 co_10 c) (co_YCf h0 l1 l9 g co_10 c ⟨rfl, co_mk0 hR hA hO⟩ hT')
    · have c : ¬ co_kd 2 = 2 := by decide
      have t0 : ¬ (2 : Int32) = 0 := by decide
      exact co_XCf nk l1 l9' g (co_cf0 t0 c) (co_YCf h0 l1 l9 g t0 c ⟨rfl, co_mk0 hR hA hO⟩ hT')
    · have ht : co_F t := ht
      have c := co_kd_F ht
      exact co_XCw l1 l9' g (co_cf1 c) co_3F ht (Or.inl ⟨rfl, rfl⟩) (Or.inr ⟨co_F_n0 ht, rfl⟩)
        (co_YC0 h0 l1 l9 g (Or.inr c) (co_Y82b ht ⟨rfl, wr 3 t t (Or.inr ht)⟩) hT')
  · have s0 := co_F_n0 hs
    rcases hT with rfl | rfl | rfl | ht
    · exact co_XCw l1 l9' g (co_cf2 s0) hs co_3F (Or.inr ⟨s0, rfl⟩) (Or.inl ⟨rfl, rfl⟩)
        (co_YC1 h0 l1 l9 g s0 (co_Y82c hs ⟨rfl, wr typed 3 0 (Or.inl rfl)⟩))
    · exact absurd (co_ag_F1 hs) g
    · exact absurd (co_ag_F2 hs) g
    · have ht : co_F t := ht
      exact co_XCw l1 l9' g (co_cf2 s0) hs ht (Or.inr ⟨s0, rfl⟩) (Or.inr ⟨co_F_n0 ht, rfl⟩)
        (co_YC1 h0 l1 l9 g s0 (co_Y82d hs ht ⟨rfl, wr typed t t (Or.inr ht)⟩))
theorem i_vc_cast {k : Nat} {u : SX} {v : SY} (I : i_Rel k u v) (hk : k + 3 ≤ 1536) (v1 : Int32) (v2 : Int32) : wpX_cast (fun r u' => wpY_cast (fun r' v' => r' = r ∧ i_Rel (k + 3) u' v') v v1 v2) u v1 v2 := by
  have J := i_up I
  obtain ⟨vt, vk, vr, lk, lr, so, sort, value, typed, called, kr, yr, ar, out, rfl, rfl, hV, hR, hA, hO⟩ := I
  rcases hV with ⟨h0, h1, h2, h3⟩ | ⟨h0, h1, h2, h3, hF⟩
  · unfold wpX_cast wpY_cast
    dsimp only
    exact br_t h2 (br_t h0 ⟨rfl, J⟩)
  cases h1
  cases h2
  cases h3
  have nk : ¬ vk = -100 := by rcases hF with ⟨e, _⟩ | ⟨e, _⟩ | ⟨e, _⟩ <;> rw [e] <;> decide
  by_cases l1 : v2 < 1
  · unfold wpX_cast wpY_cast
    dsimp only
    exact br_f nk (br_t l1 (br_f h0 (br_t l1 ⟨rfl, J⟩)))
  by_cases l9 : 9 < v2
  · have l9' : ¬ v2 ≤ 9 := fun z => (co_9 v2).mp z l9
    unfold wpX_cast wpY_cast
    dsimp only
    exact br_f nk (br_f l1 (br_f l9' (br_f h0 (br_f l1 (br_t l9 ⟨rfl, J⟩)))))
  by_cases g : co_ag vt v1 = 0
  · have l9' : v2 ≤ 9 := (co_9 v2).mpr l9
    unfold wpX_cast wpY_cast
    dsimp only
    exact br_f nk (br_f l1 (br_t l9' (co_Xagree (br_t g (br_f h0 (br_f l1 (br_f l9 (co_Yagree (br_t g ⟨rfl, J⟩)))))))))
  rcases hF with ⟨e, f⟩ | ⟨e, f⟩ | ⟨e, f, hv⟩
  · exact co_castS (o := 1) h0 hR hA hO l1 l9 g (Or.inl ⟨e, rfl⟩) f
  · exact co_castS (o := 2) h0 hR hA hO l1 l9 g (Or.inr ⟨e, rfl⟩) f
  · cases e
    exact co_castF h0 hR hA hO l1 l9 g f hv
