/-! The invariant, where both have just been made. -/
theorem rd_num_z : ∀ (w : rd_Wr) (c : Nat), (∀ e ∈ w, e.1 = c → e.2.2.2 = 0) → rd_num w c = fun _ => 0 := by
  intro w
  induction w with
  | nil => intro c _; rfl
  | cons e w ih =>
    intro c h
    obtain ⟨c1, a, n, x⟩ := e
    have hi := ih c (fun e he => h e (List.mem_cons_of_mem _ he))
    funext j
    rw [rd_num]
    by_cases q : c = c1 ∧ a ≤ j ∧ j < a + n
    · rw [if_pos q]; exact h _ List.mem_cons_self q.1.symm
    · rw [if_neg q, hi]
theorem rd_wr0_z : ∀ e ∈ rd_wr0, e.2.2.2 = 0 ∨ e.1 = 15 ∨ e.1 = 34 ∨ e.1 = 62 ∨ e.1 = 64 := by decide
theorem rd_0z (c : Nat) (h : c ≠ 15 ∧ c ≠ 34 ∧ c ≠ 62 ∧ c ≠ 64) : rd_num rd_wr0 c = fun _ => 0 := by
  refine rd_num_z _ _ (fun e he hc => ?_)
  rcases rd_wr0_z e he with q | q | q | q | q
  · exact q
  all_goals omega
theorem rd_062 (j : Nat) (h : 4 ≤ j) : rd_num rd_wr0 62 j = 0 := by
  unfold rd_wr0
  simp only [rd_num]
  repeat rw [if_neg (by omega)]
theorem inv_0 : Inv 0 (rd_num rd_wr0) := by
  have Z : ∀ c, (c ≠ 15 ∧ c ≠ 34 ∧ c ≠ 62 ∧ c ≠ 64) → ∀ j, rd_num rd_wr0 c j = 0 := fun c h j => by rw [rd_0z c h]
  have E : ∀ c d, (c ≠ 15 ∧ c ≠ 34 ∧ c ≠ 62 ∧ c ≠ 64) → (d ≠ 15 ∧ d ≠ 34 ∧ d ≠ 62 ∧ d ≠ 64) → rd_num rd_wr0 c = rd_num rd_wr0 d := fun c d h1 h2 => by rw [rd_0z c h1, rd_0z d h2]
  refine ⟨0, 0, 0, 0, 0, 0, 0, 0, 0, 0, ?_, ?_, ?_, ?_, ?_, ?_, ?_⟩
  · refine ⟨⟨by decide, by decide, by decide, by decide⟩, ⟨E _ _ (by decide) (by decide), E _ _ (by decide) (by decide), E _ _ (by decide) (by decide), E _ _ (by decide) (by decide), E _ _ (by decide) (by decide), E _ _ (by decide) (by decide), E _ _ (by decide) (by decide), E _ _ (by decide) (by decide)⟩, ⟨by decide, fun j hj => ?_, fun f hf => ⟨0, by decide, Z _ (by decide) _, fun _ => rfl, fun j _ _ => ⟨Z _ (by decide) _, Z _ (by decide) _, Z _ (by decide) _, Z _ (by decide) _⟩⟩, fun f hf => absurd hf (by omega)⟩, fun f hf => absurd hf (by omega), fun f hf => Or.inr ⟨Z _ (by decide) _, ?_⟩, ⟨by decide, fun s hs => absurd hs (by omega), fun s => Or.inl (Z _ (by decide) _)⟩⟩
    · rw [Z 67 (by decide), Z 68 (by decide), Z 69 (by decide), Z 70 (by decide)]
      exact ⟨0, 0, 0, 0, by decide, by decide, by decide, by decide, by decide, by decide, by decide, by decide⟩
    · rintro (⟨g, hg, -⟩ | ⟨s, hs, -⟩)
      · omega
      · omega
  · refine ⟨⟨by decide, by decide, by decide⟩, ⟨E _ _ (by decide) (by decide), E _ _ (by decide) (by decide), E _ _ (by decide) (by decide), E _ _ (by decide) (by decide), E _ _ (by decide) (by decide)⟩, ⟨by decide, fun r hr => absurd hr (by omega), fun r _ _ i _ => Z _ (by decide) _, fun j _ => ⟨by rw [Z _ (by decide), Z _ (by decide)], by rw [Z _ (by decide), Z _ (by decide)]⟩⟩, ⟨fun r hr => ⟨0, 0, by decide, Z _ (by decide) _, by decide, Z _ (by decide) _, Z _ (by decide) _, fun _ => ⟨rfl, rfl⟩, fun k hk => absurd hk (by omega)⟩, fun j _ => Or.inl (Z _ (by decide) _), fun j _ _ => Z _ (by decide) _⟩⟩
  · refine ⟨⟨by decide, by decide, by decide, by decide, by decide, by decide⟩, ⟨E _ _ (by decide) (by decide), E _ _ (by decide) (by decide), E _ _ (by decide) (by decide), E _ _ (by decide) (by decide)⟩, ⟨by decide, fun r hr => absurd hr (by omega), fun r _ _ i _ => Z _ (by decide) _, fun j _ => ⟨by rw [Z _ (by decide), Z _ (by decide)], by rw [Z _ (by decide), Z _ (by decide)]⟩⟩, fun o ho => absurd ho (by omega)⟩
  · exact ⟨⟨by decide, by decide, by decide, by decide, by decide, E _ _ (by decide) (by decide), by decide, by decide, by decide, by decide, E _ _ (by decide) (by decide)⟩, ⟨by decide, fun i hi => absurd hi (by omega)⟩, by decide, by decide⟩
  · exact ⟨⟨0, by decide, by decide, by decide⟩, E _ _ (by decide) (by decide)⟩
  · exact ⟨⟨by decide, by decide, E _ _ (by decide) (by decide), E _ _ (by decide) (by decide), E _ _ (by decide) (by decide), E _ _ (by decide) (by decide)⟩, ⟨by decide, fun i hi => absurd hi (by omega)⟩⟩
  · refine ⟨⟨E _ _ (by decide) (by decide), E _ _ (by decide) (by decide), by decide, by decide, by decide, by decide, by decide, by decide⟩, ⟨fun i hi => Or.inl ?_, Or.inl ⟨by decide, fun i hi => ?_, fun i hi => ?_⟩⟩⟩
    · match i, hi with
      | 0, _ => decide
      | 1, _ => decide
      | 2, _ => decide
      | 3, _ => decide
    · match i, hi with
      | 0, _ => decide
      | 1, _ => decide
      | 2, _ => decide
      | 3, _ => decide
    · rw [rd_062 i hi, Z _ (by decide)]
