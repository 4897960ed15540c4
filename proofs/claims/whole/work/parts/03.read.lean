/-! the methods that read a field -/
theorem i_vc_type {k : Nat} {u : SX} {v : SY} (I : i_Rel k u v) (hk : k + 3 ≤ 1536) : wpX_type (fun r => wpY_type (fun r' => r' = r ∧ i_Rel (k + 3) u v) v) u := by
  have J := i_up I
  obtain ⟨vt, vk, vr, lk, lr, so, sort, value, typed, called, kr, yr, ar, out, rfl, rfl, hV, hR, hA, hO⟩ := I
  unfold wpX_type wpY_type
  dsimp only
  rcases hV with ⟨h0, h1, h2, h3⟩ | ⟨h0, h1, h2, h3, _⟩
  · exact br_t h0 ⟨h1.symm, J⟩
  · exact br_f h0 ⟨h1.symm, J⟩
theorem i_vc_kind {k : Nat} {u : SX} {v : SY} (I : i_Rel k u v) (hk : k + 3 ≤ 1536) : wpX_kind (fun r => wpY_kind (fun r' => r' = r ∧ i_Rel (k + 3) u v) v) u := by
  have J := i_up I
  obtain ⟨vt, vk, vr, lk, lr, so, sort, value, typed, called, kr, yr, ar, out, rfl, rfl, hV, hR, hA, hO⟩ := I
  unfold wpX_kind wpY_kind
  dsimp only
  rcases hV with ⟨h0, h1, h2, h3⟩ | ⟨h0, h1, h2, h3, _⟩
  · exact br_t h0 ⟨h2.symm, J⟩
  · exact br_f h0 ⟨h2.symm, J⟩
theorem i_vc_raw {k : Nat} {u : SX} {v : SY} (I : i_Rel k u v) (hk : k + 3 ≤ 1536) : wpX_raw (fun r => wpY_raw (fun r' => r' = r ∧ i_Rel (k + 3) u v) v) u := by
  have J := i_up I
  obtain ⟨vt, vk, vr, lk, lr, so, sort, value, typed, called, kr, yr, ar, out, rfl, rfl, hV, hR, hA, hO⟩ := I
  unfold wpX_raw wpY_raw
  dsimp only
  rcases hV with ⟨h0, h1, h2, h3⟩ | ⟨h0, h1, h2, h3, _⟩
  · exact br_t h0 ⟨h3.symm, J⟩
  · exact br_f h0 ⟨h3.symm, J⟩
theorem i_vc_resultKind {k : Nat} {u : SX} {v : SY} (I : i_Rel k u v) (hk : k + 3 ≤ 1536) : wpX_resultKind (fun r => wpY_resultKind (fun r' => r' = r ∧ i_Rel (k + 3) u v) v) u := by
  have J := i_up I
  obtain ⟨vt, vk, vr, lk, lr, so, sort, value, typed, called, kr, yr, ar, out, rfl, rfl, hV, hR, hA, hO⟩ := I
  unfold wpX_resultKind wpY_resultKind
  dsimp only
  rcases hR with ⟨h0, h1, h2⟩ | ⟨h0, h1, h2⟩
  · exact br_t h0 ⟨h1.symm, J⟩
  · exact br_f h0 ⟨h1.symm, J⟩
theorem i_vc_result {k : Nat} {u : SX} {v : SY} (I : i_Rel k u v) (hk : k + 3 ≤ 1536) : wpX_result (fun r => wpY_result (fun r' => r' = r ∧ i_Rel (k + 3) u v) v) u := by
  have J := i_up I
  obtain ⟨vt, vk, vr, lk, lr, so, sort, value, typed, called, kr, yr, ar, out, rfl, rfl, hV, hR, hA, hO⟩ := I
  unfold wpX_result wpY_result
  dsimp only
  rcases hR with ⟨h0, h1, h2⟩ | ⟨h0, h1, h2⟩
  · exact br_t h0 ⟨h2.symm, J⟩
  · exact br_f h0 ⟨h2.symm, J⟩
